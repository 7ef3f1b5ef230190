/-! Both sides change: names that go. -/
section LIs
variable {na we hq : Nat → Int32} {W : Nat → Int32} {C : Nat → Prop}
theorem LI.congrC {C' : Nat → Prop} (hL : LI na we hq C W) (e : ∀ y, C y ↔ C' y) : LI na we hq C' W :=
  ⟨fun p hp => by
    obtain ⟨a, b, c, d, f⟩ := hL.1 p hp
    exact ⟨a, b, c.trans (e _), d, f⟩, fun x hx => hL.2 x ((e x).mpr hx)⟩
theorem LI.setH (hL : LI na we hq C W) {p x : Nat} (hp : p < 15) (hx : x = pcd p) : LI na we (upd hq p 1) (fun y => C y ∨ y = x) W := by
  subst hx
  refine ⟨fun r hr => ?_, fun x hx => ?_⟩
  · obtain ⟨a, b, c, d, f⟩ := hL.1 r hr
    by_cases e : r = p
    · subst e
      rw [upd_at]
      exact ⟨a, Or.inr rfl, ⟨fun _ => Or.inr rfl, fun _ => rfl⟩, d, f⟩
    · rw [upd_of e]
      refine ⟨a, b, ?_, d, f⟩
      rw [c]
      constructor
      · exact Or.inl
      · intro h
        rcases h with h | h
        · exact h
        · exact absurd (pc_inj hr hp h) e
  · rcases hx with hx | hx
    · exact hL.2 x hx
    · exact ⟨p, hp, hx⟩
theorem LI.delH (hL : LI na we hq C W) {p x : Nat} (hp : p < 15) (hx : x = pcd p) : LI na we (upd hq p 0) (fun y => C y ∧ y ≠ x) W := by
  subst hx
  refine ⟨fun r hr => ?_, fun x hx => hL.2 x hx.1⟩
  obtain ⟨a, b, c, d, f⟩ := hL.1 r hr
  by_cases e : r = p
  · subst e
    rw [upd_at]
    exact ⟨a, Or.inl rfl, ⟨fun h => absurd h (by decide), fun h => absurd rfl h.2⟩, d, f⟩
  · rw [upd_of e]
    refine ⟨a, b, ?_, d, f⟩
    rw [c]
    exact ⟨fun h => ⟨h, fun e2 => e (pc_inj hr hp e2)⟩, fun h => h.1⟩
theorem LI.unname (hL : LI na we hq C W) {p : Nat} (hp : p < 15) : LI (upd na p 0) we hq C (fun y => if y = pcd p then -1 else W y) := by
  refine ⟨fun r hr => ?_, hL.2⟩
  obtain ⟨a, b, c, d, f⟩ := hL.1 r hr
  by_cases e : r = p
  · subst e
    rw [upd_at]
    exact ⟨Or.inl rfl, b, c, (if_pos rfl).trans (if_neg (by decide)).symm, fun h => absurd h (by decide)⟩
  · rw [upd_of e]
    exact ⟨a, b, c, (if_neg (fun e2 => e (pc_inj hr hp e2))).trans d, f⟩
theorem LI.name (hL : LI na we hq C W) {p : Nat} (hp : p < 15) {w : Nat} (hw : w ≤ 99) : LI (upd na p 1) (upd we p (nI w)) hq C (fun y => if y = pcd p then nI w else W y) := by
  refine ⟨fun r hr => ?_, hL.2⟩
  obtain ⟨a, b, c, d, f⟩ := hL.1 r hr
  by_cases e : r = p
  · subst e
    rw [upd_at, upd_at]
    exact ⟨Or.inr rfl, b, c, (if_pos rfl).trans (if_pos rfl).symm, fun _ => ⟨w, hw, rfl⟩⟩
  · rw [upd_of e, upd_of e]
    exact ⟨a, b, c, (if_neg (fun e2 => e (pc_inj hr hp e2))).trans d, f⟩
end LIs
section Chg
variable {na we hq : Nat → Int32} {H : Nat} {k : Nat → Nat} {W : Nat → Int32} {C : Nat → Prop} {N : Nat} {n : Nat → Nat}
variable {ks ws : Nat → Int32}
theorem pl0 : ∀ p, p < 15 → (plen p = 0 ↔ p = 0) := by decide +kernel
theorem na0 (hL : LI na we hq C W) {p : Nat} (hp : p < 15) (e : ¬ na p = 1) : na p = 0 := by
  rcases (hL.1 p hp).1 with h | h
  · exact h
  · exact absurd h e
theorem inT_tB (hL : LI na we hq C W) (hT : Tn H k C N n W) {p : Nat} (hp : p < 15) : inT na p = tB N n (pcd p) := by
  unfold inT tB
  rw [Bool.eq_iff_iff, Bool.or_eq_true, Bool.or_eq_true, decide_eq_true_iff, decide_eq_true_iff, decide_eq_true_iff, decide_eq_true_iff, pc_ln hp, pl0 p hp]
  have hi : (0 < cn (fun k => decide (na k = 1) && bgB (pcd p) (pcd k)) 15) ↔ 0 < cn (fun r => bgB (pcd p) (n r)) N := by
    constructor
    · intro h
      obtain ⟨i, hi, e⟩ := cn_ex h
      rw [Bool.and_eq_true, decide_eq_true_iff] at e
      obtain ⟨r, hr, er⟩ := hT.2.1.1.2.2 _ ((hL.wn hi).mpr e.1)
      exact cn_pos (m := r) hr (by rw [er]; exact e.2)
    · intro h
      obtain ⟨r, hr, e⟩ := cn_ex h
      have hx := hT.2.1.1.2.1 r hr
      obtain ⟨i, hi, ei⟩ := hL.2 _ (hT.2.2.1 _ hx)
      refine cn_pos (m := i) hi ?_
      rw [Bool.and_eq_true, decide_eq_true_iff]
      exact ⟨(hL.wn hi).mp (by rw [← ei]; exact hx), by rw [← ei]; exact e⟩
  rw [hi]
theorem hL_ix (hL : LI na we hq C W) (h : Hs H k C) {i p : Nat} (hi : i < H) (hp : p < 15) (hkp : k i = pcd p) : plc H k (pcd p) = i ∧ hq p = 1 ∧ (i = 0 ↔ p = 0) := by
  refine ⟨by rw [← hkp, h.ixi hi], ((hL.1 p hp).2.2.1).mpr (by rw [← hkp]; exact h.c hi), ?_⟩
  constructor
  · intro e
    by_cases h0 : p = 0
    · exact h0
    · rw [e, h.k0] at hkp
      exact absurd hkp.symm (pc_pos p hp h0)
  · intro e
    rw [e, pc_0] at hkp
    exact h.en.inj hi h.pos (by rw [hkp, h.k0])
/-- houses are torn down on both sides -/
theorem tear30 (hn : Ns N n W) : ∀ (d : Nat) (H : Nat) (k : Nat → Nat) (C : Nat → Prop) (i : Nat) (ks ws ca pa : Nat → Int32) (td : Int32) (m0 m1 mm p : Nat) (hq : Nat → Int32), Tm H k C N n W i → lnN (k i) ≤ d → d ≤ 8 → Kc ks ws H k W → LI na we hq C W → p < 15 → k i = pcd p →
    (∀ j, j ≤ i → ca j = nI (ch H k j)) → (∀ j, j ≤ i → pa j = nI (pr k j)) → d < m0 → d < m1 →
    ∃ (H' : Nat) (k' : Nat → Nat) (C' : Nat → Prop) (ks' ws' ca' hq' : Nat → Int32) (c : Nat) (y2 y4 y5 : Int32), Tn H' k' C' N n W ∧ Kc ks' ws' H' k' W ∧ LI na we hq' C' W ∧
      mX5_dropName_L32 pa m0 (nI i) (nI (8 - d)) (nI H) td ks ws ca = some (y2, y4, nI H', td + nI c, ks', ws', ca') ∧
      mL_removes_L10 na m1 (nI mm) (nI p) hq = some (nI (mm + c), y5, hq') := by
  intro d
  induction d with
  | zero =>
    intro H k C i ks ws ca pa td m0 m1 mm p hq hT hd hd8 hK hL hp hkp hca hpa hm0 hm1
    obtain ⟨m0, rfl⟩ : ∃ z, m0 = z + 1 := ⟨m0 - 1, by omega⟩
    obtain ⟨m1, rfl⟩ : ∃ z, m1 = z + 1 := ⟨m1 - 1, by omega⟩
    have h := hT.1
    have hi := hT.2.2.2.2.1
    have e0 := ln0 (h.v hi) (Nat.le_zero.mp hd)
    have i0 : i = 0 := h.en.inj hi h.pos (by rw [e0, h.k0])
    have p0 : p = 0 := (hL_ix hL h hi hp hkp).2.2.mp i0
    refine ⟨H, k, C, ks, ws, ca, hq, 0, nI i, nI 8, nI p, hT.stop (Or.inl i0), hK, hL, ?_, ?_⟩
    · rw [mX5_dropName_L32, if_pos (show (8 : Int32) ≤ nI (8 - 0) by decide +kernel)]
      rw [show td + nI 0 = td from Int32.add_zero td]
    · rw [mL_removes_L10, if_pos (show nI p ≤ 0 from nI_le (b := 0) (by omega) (by omega))]
      rfl
  | succ d ih =>
    intro H k C i ks ws ca pa td m0 m1 mm p hq hT hd hd8 hK hL hp hkp hca hpa hm0 hm1
    obtain ⟨m0, rfl⟩ : ∃ z, m0 = z + 1 := ⟨m0 - 1, by omega⟩
    obtain ⟨m1, rfl⟩ : ∃ z, m1 = z + 1 := ⟨m1 - 1, by omega⟩
    have hTT := hT
    obtain ⟨h, -, hC, hW0, hi, hD, hM⟩ := hT
    have hH := h.le
    have hcl := ch_le H k i
    obtain ⟨hix, hq1, hi0p⟩ := hL_ix hL h hi hp hkp
    rw [mX5_dropName_L32, if_neg (show ¬ (8 : Int32) ≤ nI (8 - (d + 1)) from nI_ge (b := 8) (by omega) (by omega)), cidle_c hK h hi (hca i (Nat.le_refl _)), mL_removes_L10]
    have hnam : hm W (k i) = true ↔ na p = 1 := by
      rw [hkp, hm_iff, hL.wn hp]
    by_cases h0 : i ≠ 0 ∧ hm W (k i) = false ∧ ch H k i = 0
    · obtain ⟨a0, a1, a2⟩ := h0
      have hip := pr_lt k (show 0 < i by omega)
      have p0 : p ≠ 0 := fun e => a0 (hi0p.mpr e)
      have n1 : ¬ na p = 1 := fun e => by
        rw [hnam.mpr e] at a1
        exact absurd a1 (by decide)
      obtain ⟨ks', ws', b1, b2⟩ := cdrop_c hK h hi
      have hT' := hTT.step a0 a1 a2
      have ek : delN k i (pr k i) = k (pr k i) := by
        unfold delN
        rw [if_pos hip]
      have hlb := h.lbp hi (by omega)
      obtain ⟨q1, q2, q3⟩ := par_pr hL h hp p0 hq1
      rw [hix] at q1
      rw [if_neg (show ¬ (if i ≠ 0 ∧ hm W (k i) = false ∧ ch H k i = 0 then (1 : Int32) else 0) = 0 by rw [if_pos ⟨a0, a1, a2⟩]; decide), b1]
      simp only [Option.bind_some]
      rw [at_nI pa (by omega) (by omega), hpa i (Nat.le_refl _), inc_nI ca _ (by omega) (by omega), Option.bind_some, nI_1]
      rw [if_neg (nI_nle (by omega) (by omega)), rd15 na hp, Option.bind_some, if_pos (na0 hL hp n1), l_ch hL h hp hq1, Option.bind_some, hix, a2, if_pos nI_0, lpar_c hq (hL.hn0 h) hp p0, Option.bind_some, wr15 hq 0 hp, Option.bind_some, nI_1]
      obtain ⟨H', k', C', ks2, ws2, ca2, hq2, c, y2, y4, y5, r1, r2, r3, r4, r5⟩ := ih (H - 1) (delN k i) _ (pr k i) ks' ws' (upd ca (pr k i) (ca (pr k i) + -1)) pa (td + 1) m0 m1 (mm + 1) (parP hq p) (upd hq p 0) hT' (by rw [ek]; omega) (by omega) b2 (hL.delH hp hkp) q2 (by rw [ek, q1])
        (fun j hj => by
          have e1 := ch_del0 h hi a0 a2 (show j < i by omega)
          have e2 := hca j (by omega)
          by_cases h5 : j = pr k i
          · rw [if_pos h5.symm] at e1
            rw [h5, upd_at, ← h5, e2, e1, q_m1]
          · rw [if_neg (fun e => h5 e.symm)] at e1
            rw [upd_of h5, e2, e1]
            rfl)
        (fun j hj => by rw [hpa j (by omega), pr_below k i (by omega)]) (by omega) (by omega)
      refine ⟨H', k', C', ks2, ws2, ca2, hq2, c + 1, y2, y4, y5, r1, r2, r3, ?_, ?_⟩
      · rw [show 8 - (d + 1) + 1 = 8 - d by omega, r4, Int32.add_assoc, Int32.add_comm 1, nI_1]
      · rw [r5, show mm + 1 + c = mm + (c + 1) by omega]
    · refine ⟨H, k, C, ks, ws, ca, hq, 0, nI i, nI (8 - (d + 1)), nI p, hTT.stop ?_, hK, hL, ?_, ?_⟩
      · rcases Nat.eq_zero_or_pos i with h1 | h1
        · exact Or.inl h1
        · right
          by_cases h2 : hm W (k i) = true
          · exact Or.inl h2
          · right
            intro h3
            exact h0 ⟨by omega, (Bool.not_eq_true _).mp h2, h3⟩
      · rw [if_pos (show (if i ≠ 0 ∧ hm W (k i) = false ∧ ch H k i = 0 then (1 : Int32) else 0) = 0 by rw [if_neg h0]), show td + nI 0 = td from Int32.add_zero td]
      · rcases Nat.eq_zero_or_pos i with h1 | h1
        · have p0 := hi0p.mp h1
          rw [if_pos (show nI p ≤ 0 from nI_le (b := 0) (by omega) (by omega))]
          rfl
        · have p0 : p ≠ 0 := fun e => by
            have := hi0p.mpr e
            omega
          rw [if_neg (nI_nle (by omega) (by omega)), rd15 na hp, Option.bind_some]
          by_cases h2 : na p = 1
          · rw [if_neg (by rw [h2]; decide)]
            rfl
          · have h2' : hm W (k i) = false := by
              rw [← Bool.not_eq_true]
              exact fun e => h2 (hnam.mp e)
            rw [if_pos (na0 hL hp h2), l_ch hL h hp hq1, Option.bind_some, hix, if_neg (nI_ne0 (by
              rcases Nat.eq_zero_or_pos (ch H k i) with h3 | h3
              · exact absurd ⟨by omega, h2', h3⟩ h0
              · exact h3) (by omega))]
            rfl
theorem rem30 {pa ca ra ni wi ho : Nat → Int32} (hT : Tn H k C N n W) (hK : Kc ks ws H k W) (hS : Sv H k N n W pa ca ra ni wi ho) (hL : LI na we hq C W) {p : Nat} (hp : p < 15) (e : na p = 1) (q : Nat → Int32) (td : Int32) :
    ∃ (H' : Nat) (k' : Nat → Nat) (C' : Nat → Prop) (ks' ws' pa' ca' ra' ni' wi' ho' hq' : Nat → Int32) (c : Nat),
      mX5_dropName (nI H) td ks ws pa ca ra ni wi ho (nI (pcd p)) = some (nI c, nI H', td + nI c, ks', ws', pa', ca', ra', ni', wi', ho') ∧
      mL_removes q na hq (nI p) = some (nI c, upd q 4 (q 4 + nI c), upd na p 0, hq') ∧
      Tn H' k' C' (N - 1) (delN n (plc N n (pcd p))) (fun y => if y = pcd p then -1 else W y) ∧ Kc ks' ws' H' k' (fun y => if y = pcd p then -1 else W y) ∧ Sv H' k' (N - 1) (delN n (plc N n (pcd p))) (fun y => if y = pcd p then -1 else W y) pa' ca' ra' ni' wi' ho' ∧
      LI (upd na p 0) we hq' C' (fun y => if y = pcd p then -1 else W y) := by
  have hx := (hL.wn hp).mpr e
  have hTm := Tm.start hT hx
  have h := hT.1
  have hH := h.le
  have hn := hT.2.1
  have hv := pc_v hp
  have cx := hT.2.2.1 _ hx
  obtain ⟨p1, p2⟩ := h.ixe cx
  have hK1 : Kc ks (upd ws (plc H k (pcd p)) (-1)) H k (fun y => if y = pcd p then -1 else W y) := by
    intro i hi
    refine ⟨(hK i hi).1, ?_⟩
    by_cases h3 : i = plc H k (pcd p)
    · rw [h3, upd_at]
      show -1 = if k (plc H k (pcd p)) = pcd p then -1 else _
      rw [if_pos p2]
    · rw [upd_of h3, (hK i hi).2]
      show _ = if k i = pcd p then -1 else _
      rw [if_neg (fun e5 => h3 (h.en.inj hi p1 (by rw [e5, p2])))]
  obtain ⟨H', k', C', ks', ws', ca', hq', c, y2, y4, y5, r1, r2, r3, r4, r5⟩ := tear30 (na := upd na p 0) (we := we) hTm.2.1 8 H k C (plc H k (pcd p)) ks (upd ws (plc H k (pcd p)) (-1)) ca pa td FU FU 0 p hq hTm (by rw [p2]; exact hv.len) (Nat.le_refl _) hK1 (hL.unname hp) hp p2 (fun j hj => (hS.1 j (by omega)).2.1) (fun j hj => (hS.1 j (by omega)).1) (by unfold FU; omega) (by unfold FU; omega)
  obtain ⟨pa', ca2, ra', ni', wi', ho', e5, e6⟩ := survey_c r2 r1.1 r1.2.1 r1.2.2.1 pa ca' ra ni wi ho
  refine ⟨H', k', C', ks', ws', pa', ca2, ra', ni', wi', ho', hq', c, ?_, ?_, r1, r2, e6, r3⟩
  · unfold mX5_dropName
    rw [(index_c hK h hv.l31).1 cx, Option.bind_some, put_nI ws _ (by omega) (by omega), Option.bind_some, show mX5_dropName_L32 pa FU (nI (plc H k (pcd p))) 0 (nI H) td ks (upd ws (plc H k (pcd p)) (-1)) ca = _ from r4]
    simp only [Option.bind_some]
    rw [e5]
    simp only [Option.bind_some]
    rw [Int32.add_comm td, Int32.add_sub_cancel]
  · unfold mL_removes
    rw [wr15 na 0 hp, Option.bind_some, show mL_removes_L10 (upd na p 0) FU 0 (nI p) hq = _ from r5]
    simp only [Option.bind_some]
    rw [Nat.zero_add]
end Chg
