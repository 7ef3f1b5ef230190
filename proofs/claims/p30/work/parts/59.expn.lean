/-! Houses everywhere, on both sides. -/
section Expn
variable {na we hq : Nat → Int32} {H : Nat} {k : Nat → Nat} {W : Nat → Int32} {C : Nat → Prop} {N : Nat} {n : Nat → Nat}
theorem allC_iff (hT : Tn H k C N n W) {y : Nat} (hy : VN y) : allC C y ↔ tB N n y = true := by
  rw [hT.tb hy]
  constructor
  · intro ⟨c, hc, l, hl, e⟩
    obtain ⟨j, hj, ej⟩ := hT.1.en.2.2 c hc
    exact ⟨j, hj, by rw [ej, e]; exact ct_bg (hT.1.2.2.1 c hc) hl⟩
  · intro ⟨j, hj, hb⟩
    have vj := hT.1.v hj
    rw [bg_ct hy vj] at hb
    exact ⟨k j, hT.1.c hj, lnN y, hb.1, hb.2⟩
theorem Tn.all (hT : Tn H k C N n W) : ∃ H' k', Tn H' k' (allC C) N n W := by
  have hTT := hT
  have hE := kk_en hT
  obtain ⟨h, hn, hC, hW0, hD, hM⟩ := hT
  have hV : ∀ x, allC C x → VN x := fun x ⟨c, hc, l, hl, e⟩ => by
    rw [e]
    have := (h.2.2.1 c hc).len
    exact ct_VN (h.2.2.1 c hc).lt (by omega)
  have hD' : ∀ x, allC C x → x ≠ 0 → ∃ y, ¬ W y = -1 ∧ bgN x y := fun x hx x0 => by
    obtain ⟨c, hc, l, hl, e⟩ := hx
    have vc := h.2.2.1 c hc
    have c0 : c ≠ 0 := fun e0 => by
      rw [e0, ln_0] at hl
      have : l = 0 := by omega
      rw [e0, this] at e
      exact x0 (by rw [e]; rfl)
    obtain ⟨y, hy, hb⟩ := hD c hc c0
    refine ⟨y, hy, bg_trans (hV x ⟨c, hc, l, hl, e⟩) vc (hn.2.1 y hy) ?_ hb⟩
    rw [e]
    exact ct_bg vc hl
  refine ⟨_, _, ⟨hE, ⟨0, h.2.1, 0, Nat.zero_le _, rfl⟩, hV, Tn.le193 hE hV hn hD'⟩, hn, fun x hx => ⟨x, hC x hx, lnN x, Nat.le_refl _, (ct_self (hn.2.1 x hx)).symm⟩, hW0, hD', fun x y l hx hy h1 h2 h3 h4 => ?_⟩
  obtain ⟨c, hc, l9, hl9, e⟩ := hx
  have vc := h.2.2.1 c hc
  have v8 := vc.len
  have e9 : lnN x = l9 := by rw [e]; exact ct_len (by omega)
  exact ⟨c, hc, l, by omega, by rw [e]; exact ct_ct vc (by omega) hl9⟩
theorem exp30 (hL : LI na we hq C W) (hT : Tn H k C N n W) {H' : Nat} {k' : Nat → Nat} (hT' : Tn H' k' (allC C) N n W) (hle : H ≤ H') :
    ∃ hq', mL_law_L632 na FU 0 1 hq = some (nI (H' - H), nI 15, hq') ∧ LI na we hq' (allC C) W := by
  have h0 := hL.h0 hT.1
  let mk : Nat → Int32 := fun r => if r ≠ 0 ∧ hq r = 0 ∧ inT na r = true then 1 else 0
  obtain ⟨t, ht, e⟩ := lpI (fun m i (s : Int32 × (Nat → Int32)) => mL_law_L632 na m s.1 (nI i) s.2) 15
    (fun i s => 0 < i ∧ s.1 = sm mk i ∧ ∀ r, r < 15 → s.2 r = if r < i ∧ r ≠ 0 ∧ inT na r = true then 1 else hq r)
    (fun t => t.1 = sm mk 15 ∧ t.2.1 = nI 15 ∧ ∀ r, r < 15 → t.2.2 r = if r ≠ 0 ∧ inT na r = true then 1 else hq r)
    (fun m i s hi hI => by
      obtain ⟨s1, s2⟩ := s
      obtain ⟨i0, i1, i2⟩ := hI
      have i1 : s1 = sm mk i := i1
      have ei : s2 i = hq i := by
        have := i2 i hi
        rw [if_neg (fun h => absurd h.1 (Nat.lt_irrefl _))] at this
        exact this
      refine ⟨(s1 + mk i, if inT na i = true then upd s2 i 1 else upd s2 i (hq i)), ⟨by omega, ?_, fun r hr => ?_⟩, ?_⟩
      · show s1 + mk i = _
        rw [sm_s, i1]
      · show (if inT na i = true then upd s2 i 1 else upd s2 i (hq i)) r = _
        by_cases c : r = i
        · subst c
          by_cases c2 : inT na r = true
          · rw [if_pos c2, upd_at, if_pos ⟨by omega, by omega, c2⟩]
          · rw [if_neg c2, upd_at, if_neg (fun h => c2 h.2.2)]
        · have e3 : (if inT na i = true then upd s2 i 1 else upd s2 i (hq i)) r = s2 r := by
            by_cases c2 : inT na i = true
            · rw [if_pos c2, upd_of c]
            · rw [if_neg c2, upd_of c]
          have e4 : s2 r = if r < i ∧ r ≠ 0 ∧ inT na r = true then 1 else hq r := i2 r hr
          rw [e3, e4]
          by_cases c2 : r < i ∧ r ≠ 0 ∧ inT na r = true
          · rw [if_pos c2, if_pos ⟨by omega, c2.2⟩]
          · rw [if_neg c2, if_neg (fun h => c2 ⟨by omega, h.2⟩)]
      · show mL_law_L632 na (m + 1) s1 (nI i) s2 = mL_law_L632 na m (s1 + mk i) (nI (i + 1)) (if inT na i = true then upd s2 i 1 else upd s2 i (hq i))
        rw [mL_law_L632, if_neg (ge15 hi), rd15 s2 hi, Option.bind_some, ei, nI_1]
        by_cases c : hq i = 0
        · rw [if_pos c, intown_c na hi, Option.bind_some, Option.bind_some]
          by_cases c2 : inT na i = true
          · have e5 : mk i = 1 := if_pos ⟨by omega, c, c2⟩
            rw [e5, if_pos c2, c2, if_pos rfl, if_neg (by decide), wr15 s2 1 hi, Option.bind_some, if_neg (by decide)]
          · have e5 : mk i = 0 := if_neg (fun h => c2 h.2.2)
            rw [e5, if_neg c2, if_neg c2, if_pos rfl, Option.bind_some, wr15 s2 _ hi, Option.bind_some, if_pos rfl]
        · have e5 : mk i = 0 := if_neg (fun h => c h.2.1)
          rw [if_neg c, intown_c na hi, Option.bind_some, e5]
          by_cases c2 : inT na i = true
          · rw [if_pos c2, if_pos c2, if_neg (by decide), wr15 s2 1 hi, Option.bind_some]
          · rw [if_neg c2, if_neg c2, if_pos rfl, Option.bind_some, wr15 s2 _ hi, Option.bind_some])
    (fun m s hI => by
      refine ⟨(s.1, nI 15, s.2), ⟨hI.2.1, rfl, fun r hr => ?_⟩, ?_⟩
      · show s.2 r = _
        rw [hI.2.2 r hr]
        by_cases c : r ≠ 0 ∧ inT na r = true
        · rw [if_pos c, if_pos ⟨hr, c⟩]
        · rw [if_neg c, if_neg (fun h => c h.2)]
      · show mL_law_L632 na (m + 1) s.1 (nI 15) s.2 = _
        rw [mL_law_L632, if_pos le15])
    14 FU 1 (0, hq) (by omega) (by unfold FU; omega) ⟨by decide, by
      show (0 : Int32) = sm mk 1
      have e6 : mk 0 = 0 := if_neg (fun h => h.1 rfl)
      rw [sm_s, e6]
      rfl, fun r hr => by
      show hq r = _
      rw [if_neg (fun h => by omega)]⟩
  obtain ⟨t1, t2, t3⟩ := t
  obtain ⟨a1, a2, a3⟩ := ht
  have a1 : t1 = sm mk 15 := a1
  have a2 : t2 = nI 15 := a2
  have a3 : ∀ r, r < 15 → t3 r = if r ≠ 0 ∧ inT na r = true then 1 else hq r := a3
  have hLI : LI na we t3 (allC C) W := by
    refine ⟨fun r hr => ?_, fun x hx => ?_⟩
    · obtain ⟨a, b, c, d, f⟩ := hL.1 r hr
      have hin : inT na r = true ↔ allC C (pcd r) := by
        rw [inT_tB hL hT hr, allC_iff hT (pc_v hr)]
      refine ⟨a, ?_, ?_, d, f⟩
      · rw [a3 r hr]
        by_cases c2 : r ≠ 0 ∧ inT na r = true
        · rw [if_pos c2]
          exact Or.inr rfl
        · rw [if_neg c2]
          exact b
      · rw [a3 r hr]
        by_cases c2 : r ≠ 0 ∧ inT na r = true
        · rw [if_pos c2]
          exact ⟨fun _ => hin.mp c2.2, fun _ => rfl⟩
        · rw [if_neg c2]
          constructor
          · intro h1
            exact ⟨pcd r, c.mp h1, lnN (pcd r), Nat.le_refl _, (ct_self (pc_v hr)).symm⟩
          · intro h1
            by_cases r0 : r = 0
            · rw [r0]
              exact h0
            · exact absurd ⟨r0, hin.mpr h1⟩ c2
    · obtain ⟨c, hc, l, hl, ex⟩ := hx
      obtain ⟨p, hp, ep⟩ := hL.2 c hc
      rw [ep, pc_ln hp] at hl
      obtain ⟨r, hr, er, -⟩ := pc_ct p hp l hl
      exact ⟨r, hr, by rw [ex, ep]; exact er⟩
  refine ⟨t3, ?_, hLI⟩
  rw [show mL_law_L632 na FU 0 1 hq = _ from e, a1, a2]
  have e7 : nI H' = nI H + sm mk 15 := by
    rw [a_H hLI hT'.1.en, a_H hL hT.1.en]
    refine sm_plus (fun r hr => ?_)
    rw [a3 r hr]
    show _ = hq r + (if r ≠ 0 ∧ hq r = 0 ∧ inT na r = true then (1 : Int32) else 0)
    by_cases c2 : r ≠ 0 ∧ inT na r = true
    · rw [if_pos c2]
      rcases hL.h01 r hr with h | h
      · rw [if_pos ⟨c2.1, h, c2.2⟩, h]
        rfl
      · rw [if_neg (fun h2 => by rw [h] at h2; exact absurd h2.2.1 (by decide)), h]
        rfl
    · rw [if_neg c2, if_neg (fun h => c2 ⟨h.1, h.2.2⟩), Int32.add_zero]
  have e8 : sm mk 15 = nI (H' - H) := by
    rw [← q_sub hle, e7, Int32.add_comm, Int32.add_sub_cancel]
  rw [e8]
end Expn
