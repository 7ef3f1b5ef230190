/-! Houses that come and go, in the rows of both sides. -/
theorem En.ins {N : Nat} {n : Nat → Nat} {P : Nat → Prop} (h : En N n P) {x : Nat} (hx : ¬ P x) : En (N + 1) (insN n (plc N n x) x) (fun y => P y ∨ y = x) := by
  have hp := plc_le N n x
  obtain ⟨h1, h2⟩ := h.place x
  have h3 : ∀ i, plc N n x ≤ i → i < N → x < n i := by
    intro i h4 h5
    have h6 := h2 i h4 h5
    rcases Nat.lt_or_ge x (n i) with h7 | h7
    · exact h7
    · have : n i = x := by omega
      rw [← this] at hx
      exact absurd (h.2.1 i h5) hx
  generalize plc N n x = p at *
  refine ⟨fun i j hij hj => ?_, fun i hi => ?_, fun y hy => ?_⟩
  · unfold insN
    split
    · split
      · exact h.1 i j hij (by omega)
      · split
        · exact h1 i (by omega)
        · rcases Nat.lt_or_ge i (j - 1) with h4 | h4
          · exact h.1 i (j - 1) h4 (by omega)
          · omega
    · split
      · rw [if_neg (by omega), if_neg (by omega)]
        exact h3 _ (by omega) (by omega)
      · rw [if_neg (by omega), if_neg (by omega)]
        exact h.1 _ _ (by omega) (by omega)
  · unfold insN
    split
    · exact Or.inl (h.2.1 i (by omega))
    · split
      · exact Or.inr rfl
      · exact Or.inl (h.2.1 _ (by omega))
  · rcases hy with hy | hy
    · obtain ⟨i, hi, e⟩ := h.2.2 y hy
      rcases Nat.lt_or_ge i p with h4 | h4
      · exact ⟨i, by omega, by unfold insN; rw [if_pos h4]; exact e⟩
      · refine ⟨i + 1, by omega, ?_⟩
        unfold insN
        rw [if_neg (by omega), if_neg (by omega)]
        exact e
    · refine ⟨p, by omega, ?_⟩
      unfold insN
      rw [if_neg (by omega), if_pos rfl]
      exact hy.symm
theorem En.del {N : Nat} {n : Nat → Nat} {P : Nat → Prop} (h : En N n P) {i : Nat} (hi : i < N) : En (N - 1) (delN n i) (fun y => P y ∧ y ≠ n i) := by
  have e : ∀ j, delN n i j = n (if j < i then j else j + 1) := by
    intro j
    unfold delN
    split <;> rfl
  refine ⟨fun a b hab hb => ?_, fun a ha => ?_, fun y hy => ?_⟩
  · rw [e, e]
    refine h.1 _ _ ?_ ?_
    · split <;> split <;> omega
    · split <;> omega
  · rw [e]
    have h1 : (if a < i then a else a + 1) < N := by split <;> omega
    refine ⟨h.2.1 _ h1, fun e2 => ?_⟩
    have := h.inj h1 hi e2
    split at this <;> omega
  · obtain ⟨j, hj, e2⟩ := h.2.2 y hy.1
    have hne : j ≠ i := fun e3 => hy.2 (by rw [← e2, e3])
    rcases Nat.lt_or_ge j i with h1 | h1
    · exact ⟨j, by omega, by rw [e, if_pos h1]; exact e2⟩
    · refine ⟨j - 1, by omega, ?_⟩
      rw [e, if_neg (by omega), show j - 1 + 1 = j by omega]
      exact e2
theorem Hs.ins {H k C} (h : Hs H k C) {x : Nat} (hv : VN x) (hx : ¬ C x) (hH : H + 1 ≤ 193) : Hs (H + 1) (insN k (plc H k x) x) (fun y => C y ∨ y = x) :=
  ⟨h.1.ins hx, Or.inl h.2.1, fun y hy => hy.elim (h.2.2.1 y) (fun e => e ▸ hv), hH⟩
theorem Hs.del {H k C} (h : Hs H k C) {i : Nat} (hi : i < H) (h0 : i ≠ 0) : Hs (H - 1) (delN k i) (fun y => C y ∧ y ≠ k i) :=
  ⟨h.1.del hi, ⟨h.2.1, fun e => h0 (h.en.inj hi h.pos (by rw [h.k0, ← e]))⟩, fun y hy => h.2.2.1 y hy.1, by have := h.le; omega⟩
theorem open_c (g : Nat → Int32) {p H : Nat} (hp : p ≤ H) (hH : H < 193) : ∃ g', mX3_openAt 193 g (nI p) (nI H) = some g' ∧ (∀ j, j ≤ p → g' j = g j) ∧ ∀ j, p < j → j ≤ H → g' j = g (j - 1) := by
  obtain ⟨t, ht, e⟩ := lpD (fun m i (s : Nat → Int32) => mX3_openAt_L2 (nI p) 193 m (nI i) s) p (fun i s => i ≤ H ∧ (∀ j, j ≤ i → s j = g j) ∧ ∀ j, i < j → j ≤ H → s j = g (j - 1)) (fun t => (∀ j, j ≤ p → t.2 j = g j) ∧ ∀ j, p < j → j ≤ H → t.2 j = g (j - 1))
    (fun m i s hi hI => by
      obtain ⟨i1, i2, i3⟩ := hI
      refine ⟨upd s (i + 1) (s i), ⟨by omega, fun j hj => ?_, fun j h1 h2 => ?_⟩, ?_⟩
      · rw [upd_of (by omega), i2 j (by omega)]
      · rcases Nat.lt_or_ge (i + 1) j with h3 | h3
        · rw [upd_of (by omega), i3 j h3 h2]
        · have : j = i + 1 := by omega
          subst this
          rw [upd_at, i2 i (by omega)]
          rfl
      · show mX3_openAt_L2 (nI p) 193 (m + 1) (nI (i + 1)) s = mX3_openAt_L2 (nI p) 193 m (nI i) _
        rw [mX3_openAt_L2, if_neg (nI_ge (by omega) (by omega)), nI_pred, at_nI s (by omega) (by omega), put_nI s _ (by omega) (by omega), Option.bind_some, q_m1])
    (fun m s hI => by
      refine ⟨(nI p, s), ⟨hI.2.1, hI.2.2⟩, ?_⟩
      show mX3_openAt_L2 (nI p) 193 (m + 1) (nI p) s = _
      rw [mX3_openAt_L2, if_pos (nI_le (Nat.le_refl _) (by omega))])
    (H - p) FU H g (by omega) (by unfold FU; omega) ⟨Nat.le_refl _, fun _ _ => rfl, fun j h1 h2 => by omega⟩
  refine ⟨t.2, ?_, ht⟩
  unfold mX3_openAt
  rw [show mX3_openAt_L2 (nI p) 193 FU (nI H) g = _ from e]
  rfl
theorem close_c (g : Nat → Int32) {p H : Nat} (hp : p < H) (hH : H ≤ 193) : ∃ g', mX3_closeAt 193 g (nI p) (nI H) = some g' ∧ (∀ j, j < p → g' j = g j) ∧ ∀ j, p ≤ j → j < H - 1 → g' j = g (j + 1) := by
  have e1 : nI H - 1 = nI (H - 1) := by rw [← nI_pred (H - 1), show H - 1 + 1 = H by omega]
  obtain ⟨t, ht, e⟩ := lpI (fun m i (s : Nat → Int32) => mX3_closeAt_L2 (nI H) 193 m (nI i) s) (H - 1) (fun i s => p ≤ i ∧ (∀ j, j < p → s j = g j) ∧ (∀ j, p ≤ j → j < i → s j = g (j + 1)) ∧ ∀ j, i ≤ j → s j = g j) (fun t => (∀ j, j < p → t.2 j = g j) ∧ ∀ j, p ≤ j → j < H - 1 → t.2 j = g (j + 1))
    (fun m i s hi hI => by
      obtain ⟨i1, i2, i3, i4⟩ := hI
      refine ⟨upd s i (s (i + 1)), ⟨by omega, fun j hj => ?_, fun j h1 h2 => ?_, fun j hj => ?_⟩, ?_⟩
      · rw [upd_of (by omega), i2 j hj]
      · rcases Nat.lt_or_ge j i with h3 | h3
        · rw [upd_of (by omega), i3 j h1 h3]
        · have : j = i := by omega
          subst this
          rw [upd_at, i4 _ (by omega)]
      · rw [upd_of (by omega), i4 j (by omega)]
      · show mX3_closeAt_L2 (nI H) 193 (m + 1) (nI i) s = mX3_closeAt_L2 (nI H) 193 m (nI (i + 1)) _
        rw [mX3_closeAt_L2, e1, if_neg (nI_ge hi (by omega)), nI_1, at_nI s (by omega) (by omega), put_nI s _ (by omega) (by omega), Option.bind_some])
    (fun m s hI => by
      refine ⟨(nI (H - 1), s), ⟨hI.2.1, hI.2.2.1⟩, ?_⟩
      show mX3_closeAt_L2 (nI H) 193 (m + 1) (nI (H - 1)) s = _
      rw [mX3_closeAt_L2, e1, if_pos (nI_le (Nat.le_refl _) (by omega))])
    (H - 1 - p) FU p g (by omega) (by unfold FU; omega) ⟨Nat.le_refl _, fun _ _ => rfl, fun j h1 h2 => by omega, fun _ _ => rfl⟩
  refine ⟨t.2, ?_, ht⟩
  unfold mX3_closeAt
  rw [show mX3_closeAt_L2 (nI H) 193 FU (nI p) g = _ from e]
  rfl
theorem copy_c (g s0 : Nat → Int32) {H : Nat} (hH : H ≤ 193) : ∃ g', mX3_copyFrom 193 193 g s0 (nI H) = some g' ∧ ∀ j, j < H → g' j = s0 j := by
  obtain ⟨t, ht, e⟩ := lpI (fun m i (s : Nat → Int32) => mX3_copyFrom_L2 (nI H) 193 193 s0 m (nI i) s) H (fun i s => ∀ j, j < i → s j = s0 j) (fun t => ∀ j, j < H → t.2 j = s0 j)
    (fun m i s hi hI => by
      refine ⟨upd s i (s0 i), fun j hj => ?_, ?_⟩
      · rcases Nat.lt_or_ge j i with h3 | h3
        · rw [upd_of (by omega), hI j h3]
        · have : j = i := by omega
          subst this
          exact upd_at _ _ _
      · show mX3_copyFrom_L2 (nI H) 193 193 s0 (m + 1) (nI i) s = mX3_copyFrom_L2 (nI H) 193 193 s0 m (nI (i + 1)) _
        rw [mX3_copyFrom_L2, if_neg (nI_ge hi (by omega)), nI_1, at_nI s0 (by omega) (by omega), put_nI s _ (by omega) (by omega), Option.bind_some])
    (fun m s hI => by
      refine ⟨(nI H, s), hI, ?_⟩
      show mX3_copyFrom_L2 (nI H) 193 193 s0 (m + 1) (nI H) s = _
      rw [mX3_copyFrom_L2, if_pos (nI_le (Nat.le_refl _) (by omega))])
    H FU 0 g (by omega) (by unfold FU; omega) (fun j hj => absurd hj (Nat.not_lt_zero _))
  refine ⟨t.2, ?_, ht⟩
  unfold mX3_copyFrom
  rw [show mX3_copyFrom_L2 (nI H) 193 193 s0 FU 0 g = _ from e]
  rfl
section Rows
variable {ks ws : Nat → Int32} {H : Nat} {k : Nat → Nat} {W : Nat → Int32} {C : Nat → Prop} {N : Nat} {n : Nat → Nat}
theorem write_c (a b : Nat → Int32) {i : Nat} (hi : i < 193) (x y : Int32) : mX4_write a b (nI i) x y = some (upd a i x, upd b i y) := by
  unfold mX4_write
  rw [put_nI a x hi (by omega), Option.bind_some, put_nI b y hi (by omega), Option.bind_some]
theorem cins_c (hK : Kc ks ws H k W) (h : Hs H k C) {x : Nat} (hx : VN x) (hC : ¬ C x) (hW : W x = -1) (hH : H + 1 ≤ 193) :
    ∃ ks' ws', mX4_insertHouse (nI H) ks ws (nI x) = some (nI (H + 1), ks', ws') ∧ Kc ks' ws' (H + 1) (insN k (plc H k x) x) W := by
  have hp := plc_le H k x
  obtain ⟨a, a1, a2, a3⟩ := open_c ks hp (by omega)
  obtain ⟨b, b1, b2, b3⟩ := open_c ws hp (by omega)
  refine ⟨upd a (plc H k x) (nI x), upd b (plc H k x) (-1), ?_, fun i hi => ?_⟩
  · unfold mX4_insertHouse
    rw [place_c hK h hx.l31, Option.bind_some, a1, Option.bind_some, b1, Option.bind_some, write_c _ _ (by omega)]
    simp only [Option.bind_some]
    rw [nI_1]
  · unfold insN
    by_cases h1 : i < plc H k x
    · rw [upd_of (by omega), upd_of (by omega), a2 i (by omega), b2 i (by omega), if_pos h1]
      exact hK i (by omega)
    · rw [if_neg h1]
      by_cases h2 : i = plc H k x
      · rw [if_pos h2, h2, upd_at, upd_at]
        exact ⟨rfl, hW.symm⟩
      · rw [if_neg h2, upd_of h2, upd_of h2, a3 i (by omega) (by omega), b3 i (by omega) (by omega)]
        exact hK (i - 1) (by omega)
theorem cdrop_c (hK : Kc ks ws H k W) (h : Hs H k C) {i : Nat} (hi : i < H) : ∃ ks' ws', mX4_dropHouse (nI H) ks ws (nI i) = some (nI (H - 1), ks', ws') ∧ Kc ks' ws' (H - 1) (delN k i) W := by
  have hH := h.le
  obtain ⟨a, a1, a2, a3⟩ := close_c ks hi hH
  obtain ⟨b, b1, b2, b3⟩ := close_c ws hi hH
  refine ⟨a, b, ?_, fun j hj => ?_⟩
  · unfold mX4_dropHouse
    rw [a1, Option.bind_some, b1, Option.bind_some, show nI H - 1 = nI (H - 1) by rw [← nI_pred (H - 1), show H - 1 + 1 = H by omega]]
  · unfold delN
    by_cases h1 : j < i
    · rw [if_pos h1, a2 j h1, b2 j h1]
      exact hK j (by omega)
    · rw [if_neg h1, a3 j (by omega) hj, b3 j (by omega) hj]
      exact hK (j + 1) (by omega)
end Rows
