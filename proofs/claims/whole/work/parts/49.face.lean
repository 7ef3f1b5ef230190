/-! What calls require, and the answers of those that change nothing. -/
theorem p8_c {l : Nat} (h : l ≤ 8) : (1 : Int32) <<< ((3 * nI l) &&& 31) = nI (8 ^ l) := l8b h (P := fun l => (1 : Int32) <<< ((3 * nI l) &&& 31) = nI (8 ^ l)) (by decide +kernel)
theorem rpre (p1 p2 : Int32) : (mX7_requirePrefix p1 p2 = 1 ∧ ∀ s : Nat, s ≤ 1 → mX8_isPrefix p1 p2 (nI s) = 0) ∨ (mX7_requirePrefix p1 p2 = 0 ∧ ∃ a l : Nat, l ≤ 8 ∧ a < 8 ^ l ∧ p1 = nI a ∧ p2 = nI l) := by
  have other : mX7_requirePrefix p1 p2 = 1 → ∀ s : Nat, s ≤ 1 → mX8_isPrefix p1 p2 (nI s) = 0 := by
    intro h s hs
    rcases pre_c (p1 := p1) (p2 := p2) hs with h1 | ⟨-, a, l, h2, h3, h4, h5, h6⟩
    · exact h1
    · exfalso
      subst h5 h6
      have hp : 8 ^ l ≤ 8 ^ 8 := Nat.pow_le_pow_right (by decide) h3
      unfold mX7_requirePrefix at h
      rw [if_neg (nI_pos (by omega)), if_pos ((q_len 8 (by omega) (by omega)).mpr h3), if_neg (nI_pos (by omega)), p8_c h3, if_pos (nI_lt h4 (by omega))] at h
      exact absurd h (by decide)
  by_cases h1 : p2 < 0
  · have e : mX7_requirePrefix p1 p2 = 1 := by unfold mX7_requirePrefix; rw [if_pos h1]
    exact Or.inl ⟨e, other e⟩
  · by_cases h2 : p2 ≤ 8
    · obtain ⟨l, hl, e2⟩ := nI_of2 (x := p2) (M := 8) (n := 8) rfl h1 h2
      have hp : 8 ^ l ≤ 8 ^ 8 := Nat.pow_le_pow_right (by decide) hl
      by_cases h3 : p1 < 0
      · have e : mX7_requirePrefix p1 p2 = 1 := by unfold mX7_requirePrefix; rw [if_neg h1, if_pos h2, if_pos h3]
        exact Or.inl ⟨e, other e⟩
      · obtain ⟨a, ha, e1⟩ := nI_of h3
        by_cases h4 : p1 < (1 : Int32) <<< ((3 * p2) &&& 31)
        · right
          refine ⟨by unfold mX7_requirePrefix; rw [if_neg h1, if_pos h2, if_neg h3, if_pos h4], a, l, hl, ?_, e1, e2⟩
          rw [e2, p8_c hl, e1] at h4
          rcases Nat.lt_or_ge a (8 ^ l) with h5 | h5
          · exact h5
          · exact absurd h4 (nI_nlt h5 (by omega))
        · have e : mX7_requirePrefix p1 p2 = 1 := by unfold mX7_requirePrefix; rw [if_neg h1, if_pos h2, if_neg h3, if_neg h4]
          exact Or.inl ⟨e, other e⟩
    · have e : mX7_requirePrefix p1 p2 = 1 := by unfold mX7_requirePrefix; rw [if_neg h1, if_neg h2]
      exact Or.inl ⟨e, other e⟩
theorem rp_c (p1 p2 : Int32) : (mX7_requirePrefix p1 p2 = 1 ∧ mX8_isPrefix p1 p2 0 = 0) ∨ (mX7_requirePrefix p1 p2 = 0 ∧ mX8_isPrefix p1 p2 0 = 1 ∧ ∃ a l : Nat, l ≤ 8 ∧ VN (cdN a l) ∧ lnN (cdN a l) = l ∧ mX2_of p1 p2 = nI (cdN a l) ∧ mX8_code p1 p2 = nI (cdN a l)) := by
  rcases rpre p1 p2 with ⟨h1, h2⟩ | ⟨h1, a, l, h2, h3, h4, h5⟩
  · exact Or.inl ⟨h1, h2 0 (by omega)⟩
  · right
    obtain ⟨v1, v2⟩ := VN_cd h2 h3
    refine ⟨h1, by rw [h4, h5]; exact isp_c (s := 0) (by omega) h2 h3, a, l, h2, v1, v2, by rw [h4, h5]; exact of_c h2, by rw [h4, h5]; exact code_c h2⟩
theorem rn_c (p1 p2 : Int32) : (mX7_requireName p1 p2 = 1 ∧ mX8_isPrefix p1 p2 1 = 0) ∨ (mX7_requireName p1 p2 = 0 ∧ mX8_isPrefix p1 p2 1 = 1 ∧ ∃ a l : Nat, 0 < l ∧ l ≤ 8 ∧ VN (cdN a l) ∧ lnN (cdN a l) = l ∧ mX2_of p1 p2 = nI (cdN a l) ∧ mX8_code p1 p2 = nI (cdN a l)) := by
  unfold mX7_requireName
  by_cases h0 : p2 = 0
  · left
    rw [if_pos h0]
    refine ⟨rfl, ?_⟩
    unfold mX8_isPrefix mX8_within
    rw [h0]
    rfl
  · rw [if_neg h0]
    rcases rpre p1 p2 with ⟨h1, h2⟩ | ⟨h1, a, l, h2, h3, h4, h5⟩
    · left
      rw [h1]
      exact ⟨rfl, h2 1 (by omega)⟩
    · right
      obtain ⟨v1, v2⟩ := VN_cd h2 h3
      have l0 : 0 < l := by
        rcases Nat.eq_zero_or_pos l with h6 | h6
        · rw [h6] at h5
          exact absurd h5 h0
        · exact h6
      rw [h1]
      refine ⟨rfl, by rw [h4, h5]; exact isp_c (s := 1) l0 h2 h3, a, l, l0, h2, v1, v2, by rw [h4, h5]; exact of_c h2, by rw [h4, h5]; exact code_c h2⟩
theorem rw_c (p : Int32) : (mX7_requireWeight p = 1 ∧ mX8_within p 0 99 = 0) ∨ (mX7_requireWeight p = 0 ∧ mX8_within p 0 99 = 1 ∧ ¬ p = -1) := by
  unfold mX7_requireWeight mX8_within
  by_cases h1 : p < 0
  · rw [if_pos h1, if_pos h1]
    exact Or.inl ⟨rfl, rfl⟩
  · rw [if_neg h1, if_neg h1]
    by_cases h2 : p ≤ 99
    · rw [if_pos h2, if_neg (Int32.not_lt.mpr h2)]
      exact Or.inr ⟨rfl, rfl, fun e => h1 (by rw [e]; decide)⟩
    · rw [if_neg h2, if_pos (Int32.not_le.mp h2)]
      exact Or.inl ⟨rfl, rfl⟩
theorem rl_c (p : Int32) : (mX7_requireLimit p = 1 ∧ mX8_isLimit p = 0) ∨ (mX7_requireLimit p = 0 ∧ mX8_isLimit p = 1) := by
  unfold mX7_requireLimit
  rw [lim_c]
  rcases lim01 p with e | e <;> rw [e]
  · exact Or.inl ⟨rfl, rfl⟩
  · exact Or.inr ⟨rfl, rfl⟩
theorem rq_c {x : Int32} {N : Nat} (p : Int32) (hN : N < 2 ^ 31) (hx : x = nI N) : ((if p < 0 then (3 : Int32) else if p < x then 0 else 3) = 3 ∧ mX8_within p 0 (x - 1) = 0) ∨ ((if p < 0 then (3 : Int32) else if p < x then 0 else 3) = 0 ∧ mX8_within p 0 (x - 1) = 1 ∧ ∃ r, r < N ∧ p = nI r) := by
  subst hx
  unfold mX8_within
  by_cases h1 : p < 0
  · rw [if_pos h1, if_pos h1]
    exact Or.inl ⟨rfl, rfl⟩
  · rw [if_neg h1, if_neg h1]
    obtain ⟨r, hr, e⟩ := nI_of h1
    subst e
    rcases Nat.eq_zero_or_pos N with h0 | h0
    · subst h0
      rw [if_neg (nI_nlt (Nat.zero_le _) hr), if_pos (show nI 0 - 1 < nI r by
        rw [Int32.lt_iff_toInt_lt, nI_toInt hr, show (nI 0 - 1 : Int32).toInt = -1 by decide +kernel]
        omega)]
      exact Or.inl ⟨rfl, rfl⟩
    · rw [show nI N - 1 = nI (N - 1) by rw [← nI_pred (N - 1), show N - 1 + 1 = N by omega]]
      rcases Nat.lt_or_ge r N with h2 | h2
      · rw [if_pos (nI_lt h2 hN), if_neg (nI_nlt (by omega) (by omega))]
        exact Or.inr ⟨rfl, rfl, r, h2, rfl⟩
      · rw [if_neg (nI_nlt h2 hr), if_pos (nI_lt (by omega) hr)]
        exact Or.inl ⟨rfl, rfl⟩
theorem rwh_c (p : Int32) {v : Nat} (hv : v + 1 < 2 ^ 31) : (mX7_requireWhat p (nI (v + 1)) = 1 ∧ mX8_within p 0 (nI v) = 0) ∨ (mX7_requireWhat p (nI (v + 1)) = 0 ∧ mX8_within p 0 (nI v) = 1 ∧ ∃ i, i ≤ v ∧ p = nI i) := by
  unfold mX7_requireWhat mX8_within
  by_cases h1 : p < 0
  · rw [if_pos h1, if_pos h1]
    exact Or.inl ⟨rfl, rfl⟩
  · rw [if_neg h1, if_neg h1]
    obtain ⟨r, hr, e⟩ := nI_of h1
    subst e
    rcases Nat.lt_or_ge v r with h2 | h2
    · rw [if_neg (nI_nlt (by omega) hr), if_pos (nI_lt h2 hr)]
      exact Or.inl ⟨rfl, rfl⟩
    · rw [if_pos (nI_lt (by omega) hv), if_neg (nI_nlt h2 (by omega))]
      exact Or.inr ⟨rfl, rfl, r, h2, rfl⟩
section Face
variable {hv L mv ev bu td : Int32} {ks ws pa ca ra ni wi ho f : Nat → Int32}
theorem rank_f (h : TS hv L mv ev bu td ks ws pa ca ra ni wi ho f) (p1 p2 : Int32) : ∃ k r b2 th, mX7_rank ks ni ho p1 p2 = some (k, r) ∧ (k = 0 ∨ k = 1) ∧ mX8_rank f p1 p2 = some (b2, th) ∧ mX8_thrown th = (if k = 0 then 0 else (1 : Int32)) ∧ (k = 0 → r = b2) := by
  obtain ⟨H, k, C, N, n, W, hT, rfl, hK, hS, hR, e⟩ := h
  unfold mX7_rank mX8_rank
  rcases rn_c p1 p2 with ⟨h1, h2⟩ | ⟨h1, h2, a, l, l0, l8, v, vl, e1, e2⟩
  · rw [h1, h2]
    exact ⟨1, 0, 0, 1, rfl, Or.inr rfl, rfl, rfl, fun h => absurd h (by decide)⟩
  · rw [h1, h2, e1, e2, crank_c hK hS hT v.l31, rank_c hR hT.2.1 v.l31]
    exact ⟨0, _, _, 0, rfl, Or.inl rfl, rfl, rfl, fun _ => rfl⟩
theorem nth_f (h : TS hv L mv ev bu td ks ws pa ca ra ni wi ho f) (p1 p2 : Int32) : ∃ k r b2 th, mX7_nth ks ws ra ni ho p1 p2 = some (k, r) ∧ (k = 0 ∨ k = 3 ∨ k = 1) ∧ mX8_nth f p1 p2 = some (b2, th) ∧ mX8_thrown th = (if k = 0 then 0 else if k = 3 then 1 else 2) ∧ (k = 0 → r = b2) := by
  obtain ⟨H, k, C, N, n, W, hT, rfl, hK, hS, hR, e⟩ := h
  have hN := hT.2.1.2.2
  unfold mX7_nth mX8_nth mX7_requireRank mX8_isRank
  rw [cnames_c hS hT.1 hT.2.1]
  rcases rq_c (x := f 1) (N := N) p1 (by omega) hR.2.2.1 with ⟨h1, h2⟩ | ⟨h1, h2, r, hr, er⟩
  · rw [hR.2.2.1] at h1
    rw [h1, h2]
    exact ⟨3, 0, 0, 1, rfl, Or.inr (Or.inl rfl), rfl, rfl, fun h => absurd h (by decide)⟩
  · rw [hR.2.2.1] at h1
    rw [h1, h2]
    rcases rwh_c p2 (v := 3) (by omega) with ⟨h3, h4⟩ | ⟨h3, h4, i, hi, ei⟩
    · rw [show mX7_requireWhat p2 4 = 1 from h3, show mX8_within p2 0 3 = 0 from h4]
      exact ⟨1, 0, 0, 2, rfl, Or.inr (Or.inr rfl), rfl, rfl, fun h => absurd h (by decide)⟩
    · rw [show mX7_requireWhat p2 4 = 0 from h3, show mX8_within p2 0 3 = 1 from h4, er, cnval_c hK hS hT hr, nval_c hR hT.1 hT.2.1 hr]
      exact ⟨0, _, _, 0, rfl, Or.inl rfl, rfl, rfl, fun _ => rfl⟩
theorem weight_f (h : TS hv L mv ev bu td ks ws pa ca ra ni wi ho f) (p1 p2 : Int32) : ∃ k r b2 th, mX7_weight hv ks ws p1 p2 = some (k, r) ∧ (k = 0 ∨ k = 1) ∧ mX8_weight f p1 p2 = some (b2, th) ∧ mX8_thrown th = (if k = 0 then 0 else (1 : Int32)) ∧ (k = 0 → r = b2) := by
  obtain ⟨H, k, C, N, n, W, hT, rfl, hK, hS, hR, e⟩ := h
  have hN := hT.2.1.2.2
  unfold mX7_weight mX8_weight
  rcases rn_c p1 p2 with ⟨h1, h2⟩ | ⟨h1, h2, a, l, l0, l8, v, vl, e1, e2⟩
  · rw [h1, h2]
    exact ⟨1, 0, 0, 1, rfl, Or.inr rfl, rfl, rfl, fun h => absurd h (by decide)⟩
  · rw [h1, h2, e1, e2, weightOf_c hK hT.1 hT.2.2.1 v.l31]
    by_cases hW : W (cdN a l) = -1
    · rw [findn_no hR hT.2.1 v.l31 hW, hW]
      exact ⟨0, _, _, 0, rfl, Or.inl rfl, rfl, rfl, fun _ => rfl⟩
    · obtain ⟨a1, a2, a3⟩ := findn_yes hR hT.2.1 hW
      have ew := wgt_c hR hT.2.1 a2
      rw [a3] at ew
      rw [a1]
      simp only [Option.bind_some]
      rw [if_neg (q_neg (show plc N n (cdN a l) < 2 ^ 31 by omega)), ew]
      exact ⟨0, _, _, 0, rfl, Or.inl rfl, rfl, rfl, fun _ => rfl⟩
theorem count_f (h : TS hv L mv ev bu td ks ws pa ca ra ni wi ho f) (p1 p2 : Int32) : ∃ k r b2 th, mX7_count hv ks ni p1 p2 = some (k, r) ∧ (k = 0 ∨ k = 1) ∧ mX8_count f p1 p2 = some (b2, th) ∧ mX8_thrown th = (if k = 0 then 0 else (1 : Int32)) ∧ (k = 0 → r = b2) := by
  obtain ⟨H, k, C, N, n, W, hT, rfl, hK, hS, hR, e⟩ := h
  unfold mX7_count mX8_count
  rcases rp_c p1 p2 with ⟨h1, h2⟩ | ⟨h1, h2, a, l, l8, v, vl, e1, e2⟩
  · rw [h1, h2]
    exact ⟨1, 0, 0, 1, rfl, Or.inr rfl, rfl, rfl, fun h => absurd h (by decide)⟩
  · rw [h1, h2, e1, e2, ccount_c hK hS hT v, count_c hR hT.2.1 v]
    exact ⟨0, _, _, 0, rfl, Or.inl rfl, rfl, rfl, fun _ => rfl⟩
theorem house_f (h : TS hv L mv ev bu td ks ws pa ca ra ni wi ho f) (p1 p2 : Int32) : ∃ k r b2 th, mX7_house hv ks ws pa ca ra ni wi p1 p2 = some (k, r) ∧ (k = 0 ∨ k = 3 ∨ k = 1) ∧ mX8_house f p1 p2 = some (b2, th) ∧ mX8_thrown th = (if k = 0 then 0 else if k = 3 then 1 else 2) ∧ (k = 0 → r = b2) := by
  obtain ⟨H, k, C, N, n, W, hT, rfl, hK, hS, hR, e⟩ := h
  have hH := hT.1.le
  unfold mX7_house mX8_house mX7_requireHouse mX8_isHouse
  rcases rq_c (x := f 2) (N := H) p1 (by omega) hR.1 with ⟨h1, h2⟩ | ⟨h1, h2, r, hr, er⟩
  · rw [hR.1] at h1
    rw [h1, h2]
    exact ⟨3, 0, 0, 1, rfl, Or.inr (Or.inl rfl), rfl, rfl, fun h => absurd h (by decide)⟩
  · rw [hR.1] at h1
    rw [h1, h2]
    rcases rwh_c p2 (v := 8) (by omega) with ⟨h3, h4⟩ | ⟨h3, h4, i, hi, ei⟩
    · rw [show mX7_requireWhat p2 9 = 1 from h3, show mX8_within p2 0 8 = 0 from h4]
      exact ⟨1, 0, 0, 2, rfl, Or.inr (Or.inr rfl), rfl, rfl, fun h => absurd h (by decide)⟩
    · rw [show mX7_requireWhat p2 9 = 0 from h3, show mX8_within p2 0 8 = 1 from h4, er, chval_c hK hS hT.1 hr, hval_c hR hT.1 hT.2.1 hr]
      exact ⟨0, _, _, 0, rfl, Or.inl rfl, rfl, rfl, fun _ => rfl⟩
theorem houseOf_f (h : TS hv L mv ev bu td ks ws pa ca ra ni wi ho f) (p1 p2 : Int32) : ∃ k r b2 th, mX7_houseOf hv ks p1 p2 = some (k, r) ∧ (k = 0 ∨ k = 1) ∧ mX8_houseOf f p1 p2 = some (b2, th) ∧ mX8_thrown th = (if k = 0 then 0 else (1 : Int32)) ∧ (k = 0 → r = b2) := by
  obtain ⟨H, k, C, N, n, W, hT, rfl, hK, hS, hR, e⟩ := h
  unfold mX7_houseOf mX8_houseOf
  rcases rp_c p1 p2 with ⟨h1, h2⟩ | ⟨h1, h2, a, l, l8, v, vl, e1, e2⟩
  · rw [h1, h2]
    exact ⟨1, 0, 0, 1, rfl, Or.inr rfl, rfl, rfl, fun h => absurd h (by decide)⟩
  · rw [h1, h2, e1, e2]
    by_cases hc : C (cdN a l)
    · rw [(index_c hK hT.1 v.l31).1 hc, (findh_c hR hT.1 v.l31).1 hc]
      exact ⟨0, _, _, 0, rfl, Or.inl rfl, rfl, rfl, fun _ => rfl⟩
    · rw [(index_c hK hT.1 v.l31).2 hc, (findh_c hR hT.1 v.l31).2 hc]
      exact ⟨0, _, _, 0, rfl, Or.inl rfl, rfl, rfl, fun _ => rfl⟩
theorem between_f (h : TS hv L mv ev bu td ks ws pa ca ra ni wi ho f) (p1 p2 : Int32) : ∃ k r b2 th, mX7_between pa ni ho p1 p2 = some (k, r) ∧ (k = 0 ∨ k = 3) ∧ mX8_between f p1 p2 = some (b2, th) ∧ mX8_thrown th = (if k = 0 then 0 else (1 : Int32)) ∧ (k = 0 → r = b2) := by
  obtain ⟨H, k, C, N, n, W, hT, rfl, hK, hS, hR, e⟩ := h
  have hN := hT.2.1.2.2
  unfold mX7_between mX8_between mX7_requireRank mX8_isRank
  rw [cnames_c hS hT.1 hT.2.1]
  rcases rq_c (x := f 1) (N := N) p1 (by omega) hR.2.2.1 with ⟨h1, h2⟩ | ⟨h1, h2, r, hr, er⟩
  · rw [hR.2.2.1] at h1
    rw [h1, h2]
    exact ⟨3, 0, 0, 1, rfl, Or.inr rfl, rfl, rfl, fun h => absurd h (by decide)⟩
  · rw [hR.2.2.1] at h1
    rw [h1, h2]
    rcases rq_c (x := f 1) (N := N) p2 (by omega) hR.2.2.1 with ⟨h3, h4⟩ | ⟨h3, h4, q, hq, eq⟩
    · rw [hR.2.2.1] at h3
      rw [h3, h4]
      exact ⟨3, 0, 0, 1, rfl, Or.inr rfl, rfl, rfl, fun h => absurd h (by decide)⟩
    · rw [hR.2.2.1] at h3
      rw [h3, h4, er, eq, crbet_c hS hT hr hq, rbet_c hR hT.1 hT.2.1 hr hq]
      exact ⟨0, _, _, 0, rfl, Or.inl rfl, rfl, rfl, fun _ => rfl⟩
theorem tour_f (h : TS hv L mv ev bu td ks ws pa ca ra ni wi ho f) : ∃ b2 th, mX8_tour f = some (b2, th) ∧ mX7_tour hv = b2 := by
  obtain ⟨H, k, C, N, n, W, hT, rfl, hK, hS, hR, e⟩ := h
  unfold mX7_tour mX8_tour
  rw [tour_c hR hT.1 hT.2.1, ctour_c hT]
  exact ⟨_, 0, rfl, rfl⟩
/-- a value of the whole -/
theorem townv_c {H : Nat} {k : Nat → Nat} {C : Nat → Prop} {N : Nat} {n : Nat → Nat} {W : Nat → Int32} (hT : Tn H k C N n W) (hK : Kc ks ws H k W) (hS : Sv H k N n W pa ca ra ni wi ho) (e : L = f 0 ∧ mv = f 3 ∧ ev = f 4 ∧ bu = f 5 ∧ td = f 6) (tl : Int32) {i : Nat} (hi : i ≤ 11) :
    (if nI i = 11 then some tl else mX5_townValue (nI H) L mv ev bu td ks ws pa ra ni ho (nI i)) = some (whv tl f H k N n W (nI i)) := by
  obtain ⟨rfl, rfl, rfl, rfl, rfl⟩ := e
  have h11 : nI i = 11 ↔ i = 11 := q_eqn 11 (by omega) (by omega)
  have h10 : nI i = 10 ↔ i = 10 := q_eqn 10 (by omega) (by omega)
  by_cases e11 : i = 11
  · subst e11
    rw [if_pos (h11.mpr rfl)]
    rfl
  · rw [if_neg (fun e => e11 (h11.mp e))]
    unfold mX5_townValue whv
    rw [cnames_c hS hT.1 hT.2.1, ccost_c hK hS hT, cletl_c hK hS hT.1, clong_c hK hS hT.1, cway_c hS hT]
    by_cases g0 : nI i = 0
    · rw [if_pos g0, if_pos g0]
    rw [if_neg g0, if_neg g0]
    by_cases g1 : nI i = 1
    · rw [if_pos g1, if_pos g1]
    rw [if_neg g1, if_neg g1]
    by_cases g2 : nI i = 2
    · rw [if_pos g2, if_pos g2]
    rw [if_neg g2, if_neg g2]
    by_cases g3 : nI i = 3
    · rw [if_pos g3, if_pos g3]; rfl
    rw [if_neg g3, if_neg g3]
    by_cases g4 : nI i = 4
    · rw [if_pos g4, if_pos g4]; rfl
    rw [if_neg g4, if_neg g4]
    by_cases g5 : nI i = 5
    · rw [if_pos g5, if_pos g5]; rfl
    rw [if_neg g5, if_neg g5]
    by_cases g6 : nI i = 6
    · rw [if_pos g6, if_pos g6]; rfl
    rw [if_neg g6, if_neg g6]
    by_cases g7 : nI i = 7
    · rw [if_pos g7, if_pos g7]
    rw [if_neg g7, if_neg g7]
    by_cases g8 : nI i = 8
    · rw [if_pos g8, if_pos g8]
    rw [if_neg g8, if_neg g8]
    by_cases g9 : nI i = 9
    · rw [if_pos g9, if_pos g9]
    rw [if_neg g9, if_neg g9, if_pos]
    rw [h10]
    have n0 : i ≠ 0 := fun e => g0 (by rw [e]; rfl)
    have n1 : i ≠ 1 := fun e => g1 (by rw [e]; rfl)
    have n2 : i ≠ 2 := fun e => g2 (by rw [e]; rfl)
    have n3 : i ≠ 3 := fun e => g3 (by rw [e]; rfl)
    have n4 : i ≠ 4 := fun e => g4 (by rw [e]; rfl)
    have n5 : i ≠ 5 := fun e => g5 (by rw [e]; rfl)
    have n6 : i ≠ 6 := fun e => g6 (by rw [e]; rfl)
    have n7 : i ≠ 7 := fun e => g7 (by rw [e]; rfl)
    have n8 : i ≠ 8 := fun e => g8 (by rw [e]; rfl)
    have n9 : i ≠ 9 := fun e => g9 (by rw [e]; rfl)
    omega
theorem whole_f (h : TS hv L mv ev bu td ks ws pa ca ra ni wi ho f) (tl p1 : Int32) : ∃ k r b2 th, mX7_whole hv L mv ev bu td ks ws pa ra ni ho tl p1 = some (k, r) ∧ (k = 0 ∨ k = 1) ∧ mX8_whole tl f p1 = some (b2, th) ∧ mX8_thrown th = (if k = 0 then 0 else (1 : Int32)) ∧ (k = 0 → r = b2) := by
  obtain ⟨H, k, C, N, n, W, hT, rfl, hK, hS, hR, e⟩ := h
  unfold mX7_whole mX8_whole
  rcases rwh_c p1 (v := 11) (by omega) with ⟨h3, h4⟩ | ⟨h3, h4, i, hi, ei⟩
  · rw [show mX7_requireWhat p1 12 = 1 from h3, show mX8_within p1 0 11 = 0 from h4]
    exact ⟨1, 0, 0, 1, rfl, Or.inr rfl, rfl, rfl, fun h => absurd h (by decide)⟩
  · rw [show mX7_requireWhat p1 12 = 0 from h3, show mX8_within p1 0 11 = 1 from h4, whole_c hR hT.1 hT.2.1]
    have et := townv_c hT hK hS e tl hi
    rw [← ei] at et
    refine ⟨0, whv tl f H k N n W p1, _, 0, ?_, Or.inl rfl, rfl, rfl, fun _ => rfl⟩
    rw [if_pos rfl]
    by_cases e11 : p1 = 11
    · rw [if_pos e11] at et ⊢
      injection et with et
      rw [← et]
      rfl
    · rw [if_neg e11] at et ⊢
      rw [et]
      rfl
theorem reason_f (h : TS hv L mv ev bu td ks ws pa ca ra ni wi ho f) (p1 p2 : Int32) : ∃ k r b2 th, mX7_reason hv L ks ws pa ca p1 p2 = some (k, r) ∧ (k = 0 ∨ k = 1) ∧ mX8_reason f p1 p2 = some (b2, th) ∧ mX8_thrown th = (if k = 0 then 0 else (1 : Int32)) ∧ (k = 0 → r = b2) := by
  obtain ⟨H, k, C, N, n, W, hT, rfl, hK, hS, hR, e⟩ := h
  have hH := hT.1.le
  unfold mX7_reason mX8_reason
  rcases rp_c p1 p2 with ⟨h1, h2⟩ | ⟨h1, h2, a, l, l8, v, vl, e1, e2⟩
  · rw [h1, h2]
    exact ⟨1, 0, 0, 1, rfl, Or.inr rfl, rfl, rfl, fun h => absurd h (by decide)⟩
  · rw [h1, h2, e1, e2]
    by_cases hc : C (cdN a l)
    · obtain ⟨p1', p2'⟩ := hT.1.ixe hc
      rw [(index_c hK hT.1 v.l31).1 hc, (findh_c hR hT.1 v.l31).1 hc]
      simp only [Option.bind_some]
      rw [if_neg (q_neg (show plc H k (cdN a l) < 2 ^ 31 by omega)), if_neg (q_neg (show plc H k (cdN a l) < 2 ^ 31 by omega)), creason_c hK hS hT p1', why_c hR hT p1', e.1]
      exact ⟨0, _, _, 0, rfl, Or.inl rfl, rfl, rfl, fun _ => rfl⟩
    · rw [(index_c hK hT.1 v.l31).2 hc, (findh_c hR hT.1 v.l31).2 hc]
      exact ⟨0, _, _, 0, rfl, Or.inl rfl, rfl, rfl, fun _ => rfl⟩
theorem savedBy_f (h : TS hv L mv ev bu td ks ws pa ca ra ni wi ho f) (p1 : Int32) : ∃ k r b2 th, mX7_savedBy hv L ks ws pa ca wi p1 = some (k, r) ∧ (k = 0 ∨ k = 3) ∧ mX8_savedBy f p1 = some (b2, th) ∧ mX8_thrown th = (if k = 0 then 0 else (1 : Int32)) ∧ (k = 0 → r = b2) := by
  obtain ⟨H, k, C, N, n, W, hT, rfl, hK, hS, hR, e⟩ := h
  have hH := hT.1.le
  unfold mX7_savedBy mX8_savedBy mX7_requireHouse mX8_isHouse
  rcases rq_c (x := f 2) (N := H) p1 (by omega) hR.1 with ⟨h1, h2⟩ | ⟨h1, h2, r, hr, er⟩
  · rw [hR.1] at h1
    rw [h1, h2]
    exact ⟨3, 0, 0, 1, rfl, Or.inr rfl, rfl, rfl, fun h => absurd h (by decide)⟩
  · rw [hR.1] at h1
    rw [h1, h2, er, csaving_c hK hS hT hr, saves_c hR hT hr, e.1]
    exact ⟨0, _, _, 0, rfl, Or.inl rfl, rfl, rfl, fun _ => rfl⟩
theorem best_f (h : TS hv L mv ev bu td ks ws pa ca ra ni wi ho f) : ∃ r b2 th, mX7_bestMove hv L ks ws pa ca wi = some r ∧ mX8_bestMove f = some (b2, th) ∧ r = b2 := by
  obtain ⟨H, k, C, N, n, W, hT, rfl, hK, hS, hR, e⟩ := h
  unfold mX7_bestMove mX8_bestMove
  rw [cbest_c hK hS hT, best_c hR hT, e.1]
  exact ⟨_, _, 0, rfl, rfl, rfl⟩
theorem housesFor_f (h : TS hv L mv ev bu td ks ws pa ca ra ni wi ho f) (p1 p2 : Int32) : ∃ k r b2 th, mX7_housesFor hv ks ws p1 p2 = some (k, r) ∧ (k = 0 ∨ k = 1) ∧ mX8_housesFor f p1 p2 = some (b2, th) ∧ mX8_thrown th = (if k = 0 then 0 else (1 : Int32)) ∧ (k = 0 → r = b2) := by
  obtain ⟨H, k, C, N, n, W, hT, rfl, hK, hS, hR, e⟩ := h
  have hH := hT.1.le
  unfold mX7_housesFor mX8_housesFor
  rcases rn_c p1 p2 with ⟨h1, h2⟩ | ⟨h1, h2, a, l, l0, l8, v, vl, e1, e2⟩
  · rw [h1, h2]
    exact ⟨1, 0, 0, 1, rfl, Or.inr rfl, rfl, rfl, fun h => absurd h (by decide)⟩
  · obtain ⟨c1, c2, c3⟩ := cnew_c hK hT v
    have kle := knl_le (N := N) (n := n) (cdN a l) (lnN (cdN a l))
    have vk := ct_VN (k := cdN a l) (l := knl N n (cdN a l) (lnN (cdN a l))) v.lt (by omega)
    rw [h1, h2, e1, e2]
    by_cases hW : W (cdN a l) = -1
    · rw [findn_no hR hT.2.1 v.l31 hW]
      by_cases hc : C (ctN (cdN a l) (knl N n (cdN a l) (lnN (cdN a l))))
      · have hix := hT.1.ixe hc
        rw [c2 hW hc]
        simp only [Option.bind_some]
        rw [if_pos trivial, long_c hR hT.2.1 v, Option.bind_some, sht_c v kle, (findh_c hR hT.1 vk.l31).1 hc, Option.bind_some, if_neg (q_neg (by omega)), lof_c]
        exact ⟨0, _, _, 0, rfl, Or.inl rfl, rfl, rfl, fun _ => rfl⟩
      · rw [c3 hW hc]
        simp only [Option.bind_some]
        rw [if_pos trivial, long_c hR hT.2.1 v, Option.bind_some, sht_c v kle, (findh_c hR hT.1 vk.l31).2 hc, Option.bind_some, if_pos rfl, lof_c]
        exact ⟨0, _, _, 0, rfl, Or.inl rfl, rfl, rfl, fun _ => rfl⟩
    · obtain ⟨a1, a2, a3⟩ := findn_yes hR hT.2.1 hW
      have := hT.2.1.2.2
      rw [c1 hW, a1]
      simp only [Option.bind_some]
      rw [if_neg (q_neg (show plc N n (cdN a l) < 2 ^ 31 by omega))]
      exact ⟨0, _, _, 0, rfl, Or.inl rfl, rfl, rfl, fun _ => rfl⟩
/-! The checksum. -/
def fd (F : Nat → Int64 → Int64) (h : Int64) : Nat → Int64
  | 0 => h
  | n + 1 => F n (fd F h n)
theorem lpF (L : Nat → Int64 → Int32 → Option (Int64 × Int32)) (N : Nat) (F : Nat → Int64 → Int64)
    (hs : ∀ n a i, i < N → L (n + 1) a (nI i) = L n (F i a) (nI (i + 1))) (he : ∀ n a, L (n + 1) a (nI N) = some (a, nI N)) (a : Int64) (n : Nat) (h : N < n) : L n a 0 = some (fd F a N, nI N) := by
  obtain ⟨t, ht, e⟩ := lpI (fun n i (s : Int64) => L n s (nI i)) N (fun i s => s = fd F a i) (fun t => t = (fd F a N, nI N))
    (fun n i s hi hI => ⟨F i s, by rw [hI]; rfl, hs n s i hi⟩)
    (fun n s hI => ⟨(s, nI N), by rw [hI], he n s⟩) N n 0 a (by omega) h rfl
  rw [ht] at e
  exact e
def mix (g : Nat → Int32) (i : Nat) (h : Int64) : Int64 := (31 : Int64) * h + (g i).toInt64
theorem digest_f (h : TS hv L mv ev bu td ks ws pa ca ra ni wi ho f) {sz saved tl : Int32} (hs : sz = saved) : ∃ r b2 th, mX7_digest hv L mv ev bu td ks ws pa ca ra ni wi ho sz tl = some r ∧ mX8_digest saved tl f = some (b2, th) ∧ r = b2 := by
  obtain ⟨H, k, C, N, n, W, hT, rfl, hK, hS, hR, e⟩ := h
  subst hs
  have hH := hT.1.le
  have hN := hT.2.1.2.2
  have c17 : ∀ a, mX7_digest_L17 (nI H) L mv ev bu td ks ws pa ra ni ho tl FU a 0 = some (fd (mix (fun i => whv tl f H k N n W (nI i))) a 12, nI 12) := fun a =>
    lpF (fun m a i => mX7_digest_L17 (nI H) L mv ev bu td ks ws pa ra ni ho tl m a i) 12 _ (fun m a i hi => by
      show mX7_digest_L17 (nI H) L mv ev bu td ks ws pa ra ni ho tl (m + 1) a (nI i) = mX7_digest_L17 (nI H) L mv ev bu td ks ws pa ra ni ho tl m _ _
      have et := townv_c hT hK hS e tl (show i ≤ 11 by omega)
      rw [mX7_digest_L17, if_neg (fun e => by have := (q_gen 12 (by omega) (by omega)).mp e; omega)]
      have ew : mX7_whole_n (nI H) L mv ev bu td ks ws pa ra ni ho tl (nI i) = some (whv tl f H k N n W (nI i)) := by
        unfold mX7_whole_n mX7_requireWhat_n
        rw [if_neg (nI_pos (by omega)), if_pos ((q_ltn 12 (by omega) (by omega)).mpr hi), Option.bind_some]
        by_cases e11 : nI i = 11
        · rw [if_pos e11] at et ⊢
          exact et
        · rw [if_neg e11] at et ⊢
          rw [et]
          rfl
      rw [ew, Option.bind_some, nI_1]
      rfl) (fun m a => by
      show mX7_digest_L17 (nI H) L mv ev bu td ks ws pa ra ni ho tl (m + 1) a (nI 12) = _
      rw [mX7_digest_L17, if_pos (by decide +kernel)]) a FU (by unfold FU; omega)
  have r17 : ∀ a, mX8_digest_L17 tl f FU a 0 = some (fd (mix (fun i => whv tl f H k N n W (nI i))) a 12, nI 12) := fun a =>
    lpF (fun m a i => mX8_digest_L17 tl f m a i) 12 _ (fun m a i hi => by
      show mX8_digest_L17 tl f (m + 1) a (nI i) = mX8_digest_L17 tl f m _ _
      rw [mX8_digest_L17, if_neg (fun e => by have := (q_gtn 11 (by omega) (by omega)).mp e; omega), whole_c hR hT.1 hT.2.1, Option.bind_some, nI_1]
      rfl) (fun m a => by
      show mX8_digest_L17 tl f (m + 1) a (nI 12) = _
      rw [mX8_digest_L17, if_pos (by decide +kernel)]) a FU (by unfold FU; omega)
  have c56 : ∀ r, r < N → ∀ a, mX7_digest_L56 ks ws ra ho (nI r) FU a 0 = some (fd (mix (fun i => nvl H k n W r (nI i))) a 4, nI 4) := fun r hr a =>
    lpF (fun m a i => mX7_digest_L56 ks ws ra ho (nI r) m a i) 4 _ (fun m a i hi => by
      show mX7_digest_L56 ks ws ra ho (nI r) (m + 1) a (nI i) = mX7_digest_L56 ks ws ra ho (nI r) m _ _
      rw [mX7_digest_L56, if_neg (fun e => by have := (q_gen 4 (by omega) (by omega)).mp e; omega), cnval_c hK hS hT hr, nI_1]
      rfl) (fun m a => by
      show mX7_digest_L56 ks ws ra ho (nI r) (m + 1) a (nI 4) = _
      rw [mX7_digest_L56, if_pos (by decide +kernel)]) a FU (by unfold FU; omega)
  have r57 : ∀ r, r < N → ∀ a, mX8_digest_L57 f (nI r) FU a 0 = some (fd (mix (fun i => nvl H k n W r (nI i))) a 4, nI 4) := fun r hr a =>
    lpF (fun m a i => mX8_digest_L57 f (nI r) m a i) 4 _ (fun m a i hi => by
      show mX8_digest_L57 f (nI r) (m + 1) a (nI i) = mX8_digest_L57 f (nI r) m _ _
      rw [mX8_digest_L57, if_neg (fun e => by have := (q_gtn 3 (by omega) (by omega)).mp e; omega), nval_c hR hT.1 hT.2.1 hr, Option.bind_some, nI_1]
      rfl) (fun m a => by
      show mX8_digest_L57 f (nI r) (m + 1) a (nI 4) = _
      rw [mX8_digest_L57, if_pos (by decide +kernel)]) a FU (by unfold FU; omega)
  have c42 : ∀ a, mX7_digest_L42 ni ks ws ra ho FU a 0 = some (fd (fun r h => fd (mix (fun i => nvl H k n W r (nI i))) h 4) a N, nI N) := fun a =>
    lpF (fun m a i => mX7_digest_L42 ni ks ws ra ho m a i) N _ (fun m a i hi => by
      show mX7_digest_L42 ni ks ws ra ho (m + 1) a (nI i) = mX7_digest_L42 ni ks ws ra ho m _ _
      rw [mX7_digest_L42, cnames_c hS hT.1 hT.2.1, if_neg (nI_ge hi (by omega)), c56 i hi, nI_1]
      rfl) (fun m a => by
      show mX7_digest_L42 ni ks ws ra ho (m + 1) a (nI N) = _
      rw [mX7_digest_L42, cnames_c hS hT.1 hT.2.1, if_pos (nI_le (Nat.le_refl _) (by omega))]) a FU (by unfold FU; omega)
  have r44 : ∀ a, mX8_digest_L44 f FU a 0 = some (fd (fun r h => fd (mix (fun i => nvl H k n W r (nI i))) h 4) a N, nI N) := fun a =>
    lpF (fun m a i => mX8_digest_L44 f m a i) N _ (fun m a i hi => by
      show mX8_digest_L44 f (m + 1) a (nI i) = mX8_digest_L44 f m _ _
      rw [mX8_digest_L44, hR.2.2.1, if_neg (nI_ge hi (by omega)), r57 i hi, nI_1]
      rfl) (fun m a => by
      show mX8_digest_L44 f (m + 1) a (nI N) = _
      rw [mX8_digest_L44, hR.2.2.1, if_pos (nI_le (Nat.le_refl _) (by omega))]) a FU (by unfold FU; omega)
  have c109 : ∀ r, r < H → ∀ a, mX7_digest_L109 ks ws pa ca ra ni wi (nI r) FU a 0 = some (fd (mix (fun i => hvl H k N n W r (nI i))) a 9, nI 9) := fun r hr a =>
    lpF (fun m a i => mX7_digest_L109 ks ws pa ca ra ni wi (nI r) m a i) 9 _ (fun m a i hi => by
      show mX7_digest_L109 ks ws pa ca ra ni wi (nI r) (m + 1) a (nI i) = mX7_digest_L109 ks ws pa ca ra ni wi (nI r) m _ _
      rw [mX7_digest_L109, if_neg (fun e => by have := (q_gen 9 (by omega) (by omega)).mp e; omega), chval_c hK hS hT.1 hr, nI_1]
      rfl) (fun m a => by
      show mX7_digest_L109 ks ws pa ca ra ni wi (nI r) (m + 1) a (nI 9) = _
      rw [mX7_digest_L109, if_pos (by decide +kernel)]) a FU (by unfold FU; omega)
  have r105 : ∀ r, r < H → ∀ a, mX8_digest_L105 f (nI r) FU a 0 = some (fd (mix (fun i => hvl H k N n W r (nI i))) a 9, nI 9) := fun r hr a =>
    lpF (fun m a i => mX8_digest_L105 f (nI r) m a i) 9 _ (fun m a i hi => by
      show mX8_digest_L105 f (nI r) (m + 1) a (nI i) = mX8_digest_L105 f (nI r) m _ _
      rw [mX8_digest_L105, if_neg (fun e => by have := (q_gtn 8 (by omega) (by omega)).mp e; omega), hval_c hR hT.1 hT.2.1 hr, Option.bind_some, nI_1]
      rfl) (fun m a => by
      show mX8_digest_L105 f (nI r) (m + 1) a (nI 9) = _
      rw [mX8_digest_L105, if_pos (by decide +kernel)]) a FU (by unfold FU; omega)
  have c92 : ∀ a, mX7_digest_L92 (nI H) ks ws pa ca ra ni wi L FU a 0 = some (fd (fun r h => (31 : Int64) * (fd (mix (fun i => hvl H k N n W r (nI i))) h 9) + (svl (f 0) H k N n W r).toInt64) a H, nI H) := fun a =>
    lpF (fun m a i => mX7_digest_L92 (nI H) ks ws pa ca ra ni wi L m a i) H _ (fun m a i hi => by
      show mX7_digest_L92 (nI H) ks ws pa ca ra ni wi L (m + 1) a (nI i) = mX7_digest_L92 (nI H) ks ws pa ca ra ni wi L m _ _
      rw [mX7_digest_L92, if_neg (nI_ge hi (by omega)), c109 i hi, csaving_c hK hS hT hi, e.1, nI_1]
      rfl) (fun m a => by
      show mX7_digest_L92 (nI H) ks ws pa ca ra ni wi L (m + 1) a (nI H) = _
      rw [mX7_digest_L92, if_pos (nI_le (Nat.le_refl _) (by omega))]) a FU (by unfold FU; omega)
  have r92 : ∀ a, mX8_digest_L92 f FU a 0 = some (fd (fun r h => (31 : Int64) * (fd (mix (fun i => hvl H k N n W r (nI i))) h 9) + (svl (f 0) H k N n W r).toInt64) a H, nI H) := fun a =>
    lpF (fun m a i => mX8_digest_L92 f m a i) H _ (fun m a i hi => by
      show mX8_digest_L92 f (m + 1) a (nI i) = mX8_digest_L92 f m _ _
      rw [mX8_digest_L92, hR.1, if_neg (nI_ge hi (by omega)), r105 i hi]
      simp only [Option.bind_some]
      rw [saves_c hR hT hi, Option.bind_some, nI_1]) (fun m a => by
      show mX8_digest_L92 f (m + 1) a (nI H) = _
      rw [mX8_digest_L92, hR.1, if_pos (nI_le (Nat.le_refl _) (by omega))]) a FU (by unfold FU; omega)
  have e31 : mX7_mix 43504 (mX6_size sz).toInt64 = (1348624 : Int64) + sz.toInt64 := by
    unfold mX7_mix mX6_size
    rw [show (31 : Int64) * 43504 = 1348624 by decide]
  unfold mX7_digest mX8_digest
  rw [c17, r17, e31]
  simp only [Option.bind_some]
  rw [c42, r44]
  simp only [Option.bind_some]
  rw [c92, r92]
  simp only [Option.bind_some]
  rw [cbest_c hK hS hT, best_c hR hT, tour_c hR hT.1 hT.2.1, ctour_c hT, e.1]
  exact ⟨_, _, 0, rfl, rfl, rfl⟩
end Face
