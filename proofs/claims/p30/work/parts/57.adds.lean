/-! A name that comes, on the law's side. -/
section Adds
variable {na we hq : Nat → Int32} {H : Nat} {k : Nat → Nat} {W : Nat → Int32} {C : Nat → Prop} {N : Nat} {n : Nat → Nat}
theorem addsL3 (hL : LI na we hq C W) (hT : Tn H k C N n W) {p0 : Nat} (hp0 : p0 < 15) : ∀ (l m p : Nat), p < 15 → plen p = l → l ≤ plen p0 → pcd p = ctN (pcd p0) l → l < m →
    ∃ kp, kp < 15 ∧ mL_adds_L3 na m (nI p) = some (nI kp) ∧ pcd kp = ctN (pcd p0) (knl N n (pcd p0) l) ∧ plen kp = knl N n (pcd p0) l := by
  intro l
  induction l with
  | zero =>
    intro m p hp hl _ hc hm
    obtain ⟨m, rfl⟩ : ∃ z, m = z + 1 := ⟨m - 1, by omega⟩
    have h0 : p = 0 := (pl0 p hp).mp hl
    refine ⟨p, hp, ?_, hc, hl⟩
    rw [mL_adds_L3, intown_c na hp, Option.bind_some, show inT na p = true by rw [h0]; rfl, if_neg (by decide)]
  | succ l ih =>
    intro m p hp hl hle hc hm
    obtain ⟨m, rfl⟩ : ∃ z, m = z + 1 := ⟨m - 1, by omega⟩
    rw [mL_adds_L3, intown_c na hp, Option.bind_some, inT_tB hL hT hp]
    unfold knl
    rw [← hc]
    by_cases e : tB N n (pcd p) = true
    · rw [e, if_pos rfl, if_neg (by decide), if_pos rfl]
      exact ⟨p, hp, rfl, hc, hl⟩
    · have p0 : p ≠ 0 := fun e0 => by
        have := (pl0 p hp).mpr e0
        omega
      obtain ⟨c1, c2, c3⟩ := pc_cut0 p hp p0
      have hu := upp_lt p0
      rw [(Bool.not_eq_true _).mp e, if_pos (show (if false = true then (1 : Int32) else 0) = 0 from rfl), if_neg (show ¬ false = true by decide), pc_upI p hp p0]
      refine ih m (upp p) (by omega) (by omega) (by omega) ?_ (by omega)
      rw [← c1, hc, show plen p - 1 = l by omega]
      exact ct_ct (pc_v hp0) (by omega) (by rw [pc_ln hp0]; exact hle)
theorem addsL47 {p0 kp kl : Nat} (hp0 : p0 < 15) (hkp : kp < 15) (ekp : pcd kp = ctN (pcd p0) kl) (lkp : plen kp = kl) : ∀ (l m h : Nat) (q hq : Nat → Int32), h < 15 → plen h = l → l ≤ plen p0 → pcd h = ctN (pcd p0) l → kl ≤ l → l < m → (∀ r, r < 15 → hq r = 0 ∨ hq r = 1) →
    ∃ q' hq', mL_adds_L47 (nI kp) m (nI h) q hq = some (nI kp, q', hq') ∧ q' 3 = q 3 + nI (l - kl) ∧ (∀ j, j ≠ 3 → q' j = q j) ∧ (∀ r, r < 15 → hq' r = 0 ∨ hq' r = 1) ∧
      ∀ r, r < 15 → (hq' r = 1 ↔ (hq r = 1 ∨ ∃ j, kl < j ∧ j ≤ l ∧ pcd r = ctN (pcd p0) j)) := by
  intro l
  induction l with
  | zero =>
    intro m h q hq hh hl hle hc hkl hm h01
    obtain ⟨m, rfl⟩ : ∃ z, m = z + 1 := ⟨m - 1, by omega⟩
    have e0 : kl = 0 := by omega
    have e1 : h = kp := pc_inj hh hkp (by rw [hc, ekp, e0])
    subst e1
    refine ⟨q, hq, ?_, by rw [e0]; exact (Int32.add_zero _).symm, fun _ _ => rfl, h01, fun r hr => ?_⟩
    · rw [mL_adds_L47, if_pos (nI_le (Nat.le_refl _) (by omega))]
    · constructor
      · exact Or.inl
      · intro h1
        rcases h1 with h1 | ⟨j, j1, j2, -⟩
        · exact h1
        · omega
  | succ l ih =>
    intro m h q hq hh hl hle hc hkl hm h01
    obtain ⟨m, rfl⟩ : ∃ z, m = z + 1 := ⟨m - 1, by omega⟩
    by_cases e : kl = l + 1
    · have e1 : h = kp := pc_inj hh hkp (by rw [hc, ekp, e])
      subst e1
      refine ⟨q, hq, ?_, by rw [e, Nat.sub_self]; exact (Int32.add_zero _).symm, fun _ _ => rfl, h01, fun r hr => ?_⟩
      · rw [mL_adds_L47, if_pos (nI_le (Nat.le_refl _) (by omega))]
      · constructor
        · exact Or.inl
        · intro h1
          rcases h1 with h1 | ⟨j, j1, j2, -⟩
          · exact h1
          · omega
    · have hb : bgB (pcd kp) (pcd h) = true := by
        rw [bgB_iff, ekp, hc]
        exact ct_mono (pc_v hp0) (by omega) (by rw [pc_ln hp0]; exact hle)
      have hge := pc_ge0 kp hkp h hh hb
      have hne : kp ≠ h := fun e2 => by
        rw [← e2, lkp] at hl
        exact e hl
      have h0 : h ≠ 0 := by omega
      obtain ⟨c1, c2, c3⟩ := pc_cut0 h hh h0
      have hu := upp_lt h0
      obtain ⟨q', hq', r1, r2, r3, r4, r5⟩ := ih m (upp h) (upd q 3 (q 3 + 1)) (upd hq h 1) (by omega) (by omega) (by omega) (by
        rw [← c1, hc, show plen h - 1 = l by omega]
        exact ct_ct (pc_v hp0) (by omega) (by rw [pc_ln hp0]; exact hle)) (by omega) (by omega) (fun r hr => by
          by_cases e2 : r = h
          · rw [e2, upd_at]
            exact Or.inr rfl
          · rw [upd_of e2]
            exact h01 r hr)
      refine ⟨q', hq', ?_, ?_, fun j hj => ?_, r4, fun r hr => ?_⟩
      · rw [mL_adds_L47, if_neg (nI_ge (show kp < h by omega) (by omega)), wr15 hq 1 hh, Option.bind_some, pc_upI h hh h0]
        exact r1
      · rw [r2, upd_at, Int32.add_assoc, Int32.add_comm 1, nI_1]
        congr 2
        omega
      · rw [r3 j hj, upd_of hj]
      · rw [r5 r hr]
        constructor
        · intro h1
          rcases h1 with h1 | ⟨j, j1, j2, j3⟩
          · by_cases e2 : r = h
            · exact Or.inr ⟨l + 1, by omega, Nat.le_refl _, by rw [e2]; exact hc⟩
            · rw [upd_of e2] at h1
              exact Or.inl h1
          · exact Or.inr ⟨j, j1, by omega, j3⟩
        · intro h1
          rcases h1 with h1 | ⟨j, j1, j2, j3⟩
          · left
            by_cases e2 : r = h
            · rw [e2, upd_at]
            · rw [upd_of e2]
              exact h1
          · by_cases e3 : j = l + 1
            · left
              have : r = h := pc_inj hr hh (by rw [j3, hc, e3])
              rw [this, upd_at]
            · exact Or.inr ⟨j, j1, by omega, j3⟩
theorem adds30 (hL : LI na we hq C W) (hT : Tn H k C N n W) {p : Nat} (hp : p < 15) (p0 : p ≠ 0) (e : ¬ na p = 1) {w : Nat} (hw : w ≤ 99) (q : Nat → Int32) :
    ∃ q' hq', mL_adds q na we hq (nI p) (nI w) = some (nI (plc N n (pcd p)), q', upd na p 1, upd we p (nI w), hq') ∧ q' 0 = q 0 ∧ q' 1 = q 1 ∧ q' 4 = q 4 ∧ q' 3 = q 3 + nI (lnN (pcd p) - knl N n (pcd p) (lnN (pcd p))) ∧
      (C (ctN (pcd p) (knl N n (pcd p) (lnN (pcd p)))) → q' 2 = q 2) ∧ (¬ C (ctN (pcd p) (knl N n (pcd p) (lnN (pcd p)))) → q' 2 = q 2 + 1) ∧
      LI (upd na p 1) (upd we p (nI w)) hq' (addC C (pcd p) (knl N n (pcd p) (lnN (pcd p))) (lnN (pcd p))) (fun y => if y = pcd p then nI w else W y) := by
  have h8 := (pc_l8 p hp).1
  have hv := pc_v hp
  rw [pc_ln hp]
  have hkn := knl_le (N := N) (n := n) (pcd p) (plen p)
  obtain ⟨kp, k1, k2, k3, k4⟩ := addsL3 hL hT hp (plen p) FU p hp rfl (Nat.le_refl _) (by
    have := ct_self hv
    rw [pc_ln hp] at this
    exact this.symm) (by unfold FU; omega)
  generalize hkl : knl N n (pcd p) (plen p) = kl at *
  -- the first house
  have hrank : mL_rank (upd na p 1) (nI p) = some (nI (plc N n (pcd p))) := by
    rw [lrank_c _ (by rw [upd_of (by omega)]; exact hL.n0 hT) hp, a_rank hL hT]
    refine congrArg some (sm_congr (fun i hi => ?_))
    by_cases c : i = p
    · subst c
      rw [if_neg (Nat.lt_irrefl _), ite_self, ite_self]
    · rw [upd_of c]
  have key : ∀ (q1 hq1 : Nat → Int32), (∀ r, r < 15 → hq1 r = 0 ∨ hq1 r = 1) → (∀ r, r < 15 → (hq1 r = 1 ↔ (hq r = 1 ∨ r = kp))) →
      ∃ q' hq', mL_adds_L47 (nI kp) FU (nI p) q1 hq1 = some (nI kp, q', hq') ∧ q' 3 = q1 3 + nI (plen p - kl) ∧ (∀ j, j ≠ 3 → q' j = q1 j) ∧ LI (upd na p 1) (upd we p (nI w)) hq' (addC C (pcd p) kl (plen p)) (fun y => if y = pcd p then nI w else W y) := by
    intro q1 hq1 g1 g2
    obtain ⟨q', hq', r1, r2, r3, r4, r5⟩ := addsL47 hp k1 k3 k4 (plen p) FU p q1 hq1 hp rfl (Nat.le_refl _) (by
      have := ct_self hv
      rw [pc_ln hp] at this
      exact this.symm) hkn (by unfold FU; omega) g1
    refine ⟨q', hq', r1, r2, r3, fun r hr => ?_, fun y hy => ?_⟩
    · obtain ⟨a, b, c, d, f⟩ := (hL.name hp hw).1 r hr
      refine ⟨a, r4 r hr, ?_, d, f⟩
      rw [r5 r hr, g2 r hr, c]
      unfold addC
      constructor
      · intro h1
        rcases h1 with (h1 | h1) | ⟨j, j1, j2, j3⟩
        · exact Or.inl h1
        · exact Or.inr ⟨kl, Nat.le_refl _, hkn, by rw [h1]; exact k3⟩
        · exact Or.inr ⟨j, by omega, j2, j3⟩
      · intro h1
        rcases h1 with h1 | ⟨j, j1, j2, j3⟩
        · exact Or.inl (Or.inl h1)
        · by_cases c2 : j = kl
          · exact Or.inl (Or.inr (pc_inj hr k1 (by rw [j3, k3, c2])))
          · exact Or.inr ⟨j, by omega, j2, j3⟩
    · rcases hy with hy | ⟨j, j1, j2, j3⟩
      · exact hL.2 y hy
      · obtain ⟨r, hr, er, -⟩ := pc_ct p hp j j2
        exact ⟨r, hr, by rw [j3]; exact er⟩
  have hck : hq kp = 1 ↔ C (ctN (pcd p) kl) := by
    rw [← k3]
    exact (hL.1 kp k1).2.2.1
  unfold mL_adds
  rw [show mL_adds_L3 na FU (nI p) = _ from k2, Option.bind_some, rd15 hq k1, Option.bind_some]
  by_cases c : hq kp = 1
  · obtain ⟨q', hq', r1, r2, r3, r4⟩ := key q hq hL.h01 (fun r hr => ⟨Or.inl, fun h => by
      rcases h with h | h
      · exact h
      · rw [h]; exact c⟩)
    refine ⟨q', hq', ?_, r3 0 (by decide), r3 1 (by decide), r3 4 (by decide), r2, fun _ => r3 2 (by decide), fun h => absurd (hck.mp c) h, r4⟩
    rw [if_neg (by rw [c]; decide), show mL_adds_L47 (nI kp) FU (nI p) q hq = _ from r1]
    simp only [Option.bind_some]
    rw [wr15 na 1 hp, Option.bind_some, wr15 we _ hp, Option.bind_some, hrank, Option.bind_some]
  · have c0 : hq kp = 0 := by
      rcases hL.h01 kp k1 with h | h
      · exact h
      · exact absurd h c
    obtain ⟨q', hq', r1, r2, r3, r4⟩ := key (upd q 2 (q 2 + 1)) (upd hq kp 1) (fun r hr => by
      by_cases e2 : r = kp
      · rw [e2, upd_at]
        exact Or.inr rfl
      · rw [upd_of e2]
        exact hL.h01 r hr) (fun r hr => by
      by_cases e2 : r = kp
      · rw [e2, upd_at]
        exact ⟨fun _ => Or.inr rfl, fun _ => rfl⟩
      · rw [upd_of e2]
        exact ⟨Or.inl, fun h => by
          rcases h with h | h
          · exact h
          · exact absurd h e2⟩)
    refine ⟨q', hq', ?_, (r3 0 (by decide)).trans (upd_of (by decide)), (r3 1 (by decide)).trans (upd_of (by decide)), (r3 4 (by decide)).trans (upd_of (by decide)), ?_, fun h => absurd (hck.mpr h) c, fun _ => (r3 2 (by decide)).trans (upd_at _ _ _), r4⟩
    · rw [if_pos c0, wr15 hq 1 k1, Option.bind_some, show mL_adds_L47 (nI kp) FU (nI p) (upd q 2 (q 2 + 1)) (upd hq kp 1) = _ from r1]
      simp only [Option.bind_some]
      rw [wr15 na 1 hp, Option.bind_some, wr15 we _ hp, Option.bind_some, hrank, Option.bind_some]
    · rw [r2, upd_of (by decide)]
end Adds
