/-! Places in the class's rows. -/
def Kc (ks ws : Nat → Int32) (H : Nat) (k : Nat → Nat) (W : Nat → Int32) : Prop := ∀ i, i < H → ks i = nI (k i) ∧ ws i = W (k i)
def lcl (x y : Nat) : Nat → Nat
  | 0 => 0
  | l + 1 => if ctN x (l + 1) = ctN y (l + 1) then l + 1 else lcl x y l
theorem lcl_le (x y : Nat) : ∀ m, lcl x y m ≤ m
  | 0 => Nat.le_refl _
  | l + 1 => by
    have := lcl_le x y l
    unfold lcl
    split <;> omega
theorem lcl_eq {x y : Nat} (hx : VN x) (hy : VN y) : ∀ m, ctN x (lcl x y m) = ctN y (lcl x y m)
  | 0 => by
    show ctN x 0 = ctN y 0
    rw [ct_0 hx, ct_0 hy]
  | l + 1 => by
    unfold lcl
    split
    · rename_i h; exact h
    · exact lcl_eq hx hy l
theorem lcl_max {x y : Nat} : ∀ m j, lcl x y m < j → j ≤ m → ¬ ctN x j = ctN y j
  | 0, j, h, h2 => by
    have : lcl x y 0 = 0 := rfl
    omega
  | l + 1, j, h, h2 => by
    unfold lcl at h
    split at h
    · omega
    · rename_i h3
      rcases Nat.lt_or_ge l j with h4 | h4
      · have : j = l + 1 := by omega
        subst this; exact h3
      · exact lcl_max l j h h4
theorem ln0 {x : Nat} (hx : VN x) (h : lnN x = 0) : x = 0 := by
  have h1 := hx.eq
  have h2 := hx.dlt
  rw [h] at h1 h2
  have h3 : x / bsN 0 = 0 := Nat.lt_one_iff.mp h2
  rw [h3] at h1
  omega
/-- the first house that begins with a prefix is above all that begin so -/
theorem Tn.fst {H k C N n W} (hT : Tn H k C N n W) {x y : Nat} (hx : VN x) (hp : plc H k x < H) (hb : bgN x (k (plc H k x))) (hy : C y) (hxy : bgN x y) : bgN (k (plc H k x)) y := by
  obtain ⟨h, hn, hC, hW0, hD, hM⟩ := hT
  obtain ⟨hpl1, hpl2⟩ := h.en.place x
  generalize plc H k x = p at *
  have vq := h.v hp
  have vy := h.2.2.1 y hy
  have hyq : k p ≤ y := by
    obtain ⟨j, hj, e⟩ := h.en.2.2 y hy
    rcases Nat.lt_or_ge j p with h1 | h1
    · have := hpl1 j h1
      have := hxy.1
      omega
    · rw [← e]
      exact (h.en.le hp hj).mpr h1
  have hlx1 := bg_len hx vq hb
  have hlx2 := bg_len hx vy hxy
  have ex : ctN (k p) (lnN x) = ctN y (lnN x) := by
    rw [← ((bg_ct hx vq).mp hb).2, ← ((bg_ct hx vy).mp hxy).2]
  have hl := lcl_le (k p) y (min (lnN (k p)) (lnN y))
  have he := lcl_eq vq vy (min (lnN (k p)) (lnN y))
  have hmx := lcl_max (x := k p) (y := y) (min (lnN (k p)) (lnN y))
  generalize lcl (k p) y (min (lnN (k p)) (lnN y)) = l at *
  have hlx : lnN x ≤ l := by
    rcases Nat.lt_or_ge l (lnN x) with h1 | h1
    · exact absurd ex (hmx _ h1 (by omega))
    · exact h1
  rcases Nat.lt_or_ge l (lnN (k p)) with h1 | h1
  · rcases Nat.lt_or_ge l (lnN y) with h2 | h2
    · exfalso
      have hc := hM (k p) y l (h.c hp) hy h1 h2 he (hmx _ (by omega) (by omega))
      have v8 := vq.len
      obtain ⟨j, hj, e⟩ := h.en.2.2 _ hc
      have h3 := ct_bg vq (Nat.le_of_lt h1)
      have h4 : ctN (k p) l ≠ k p := by
        intro e2
        have := ct_len (k := k p) (l := l) (by omega)
        rw [e2] at this
        omega
      have h5 : j < p := (h.en.lt hj hp).mp (by have := h3.1; omega)
      have h6 := hpl1 j h5
      have h7 := ct_mono vq hlx (Nat.le_of_lt h1)
      rw [← ((bg_ct hx vq).mp hb).2] at h7
      have := h7.1
      omega
    · have v8 := vq.len
      have : l = lnN y := by omega
      subst this
      have e2 := ct_self vy
      rw [← he] at e2
      have h3 := ct_bg vq (l := lnN y) (by omega)
      rw [e2] at h3
      have := h3.1
      have : y = k p := by omega
      rw [this]
      exact bg_rfl _
  · rw [bg_ct vq vy]
    have : l = lnN (k p) := by omega
    subst this
    refine ⟨by omega, ?_⟩
    rw [← he]
    exact (ct_self vq).symm
/-- a prefix is in the town where a house begins with it -/
theorem Tn.tb {H k C N n W} (hT : Tn H k C N n W) {x : Nat} (hx : VN x) : tB N n x = true ↔ ∃ j, j < H ∧ bgN x (k j) := by
  obtain ⟨h, hn, hC, hW0, hD, hM⟩ := hT
  unfold tB
  rw [Bool.or_eq_true, decide_eq_true_iff, decide_eq_true_iff]
  constructor
  · intro h1
    rcases h1 with h1 | h1
    · rw [ln0 hx h1]
      refine ⟨0, h.pos, ?_⟩
      rw [h.k0]
      exact bg_rfl _
    · obtain ⟨r, hr, hb⟩ := cn_ex h1
      rw [bgB_iff] at hb
      obtain ⟨j, hj, e⟩ := h.en.2.2 _ (hC _ (hn.1.2.1 r hr))
      exact ⟨j, hj, by rw [e]; exact hb⟩
  · intro ⟨j, hj, hb⟩
    by_cases h0 : lnN x = 0
    · exact Or.inl h0
    · right
      have hk0 : k j ≠ 0 := by
        intro e
        have := bg_len hx (h.v hj) hb
        rw [e, ln_0] at this
        omega
      obtain ⟨y, hy, hb2⟩ := hD _ (h.c hj) hk0
      obtain ⟨r, hr, e⟩ := hn.1.2.2 y hy
      refine cn_pos (m := r) hr (bgB_iff.mpr ?_)
      rw [e]
      exact bg_trans hx (h.v hj) (hn.2.1 y hy) hb hb2
theorem Hs.fw {H k C} (h : Hs H k C) {x : Nat} : (∃ j, j < H ∧ bgN x (k j)) ↔ plc H k x < H ∧ bgN x (k (plc H k x)) := by
  constructor
  · intro ⟨j, hj, hb⟩
    obtain ⟨h1, h2⟩ := h.en.place x
    have h3 : plc H k x ≤ j := by
      rcases Nat.lt_or_ge j (plc H k x) with h4 | h4
      · have := h1 j h4
        have := hb.1
        omega
      · exact h4
    refine ⟨by omega, bg_mid hb (h2 _ (Nat.le_refl _) (by omega)) ((h.en.le (by omega) hj).mpr h3)⟩
  · intro ⟨h1, h2⟩
    exact ⟨_, h1, h2⟩
section Cls
variable {ks ws : Nat → Int32} {H : Nat} {k : Nat → Nat} {W : Nat → Int32} {C : Nat → Prop} {N : Nat} {n : Nat → Nat}
theorem Kc.key (hK : Kc ks ws H k W) (h : Hs H k C) {i : Nat} (hi : i < H) : mX3_at 193 ks (nI i) = nI (k i) := by
  have := h.le
  rw [at_nI ks (by omega) (by omega), (hK i hi).1]
theorem Kc.wgt (hK : Kc ks ws H k W) (h : Hs H k C) {i : Nat} (hi : i < H) : mX3_at 193 ws (nI i) = W (k i) := by
  have := h.le
  rw [at_nI ws (by omega) (by omega), (hK i hi).2]
theorem place_c (hK : Kc ks ws H k W) (h : Hs H k C) {x : Nat} (hx : x < 2 ^ 31) : mX4_placeOf (nI H) ks (nI x) = some (nI (plc H k x)) := by
  have hH := h.le
  have hp := plc_le H k x
  obtain ⟨h1, h2⟩ := h.en.place x
  obtain ⟨t, ht, e⟩ := lpI (fun n i (_ : Unit) => mX4_placeOf_L2 (nI H) (nI x) ks n (nI i)) (plc H k x) (fun _ _ => True) (fun t => t = nI (plc H k x))
    (fun m i s hi _ => by
      refine ⟨s, trivial, ?_⟩
      show mX4_placeOf_L2 (nI H) (nI x) ks (m + 1) (nI i) = _
      rw [mX4_placeOf_L2, if_neg (nI_ge (by omega) (by omega)), hK.key h (by omega), if_neg (nI_ge (h1 i hi) hx), nI_1])
    (fun m s _ => by
      refine ⟨_, rfl, ?_⟩
      show mX4_placeOf_L2 (nI H) (nI x) ks (m + 1) (nI (plc H k x)) = _
      rw [mX4_placeOf_L2]
      rcases Nat.lt_or_ge (plc H k x) H with h3 | h3
      · rw [if_neg (nI_ge h3 (by omega)), hK.key h h3, if_pos (nI_le (h2 _ (Nat.le_refl _) h3) (h.v h3).l31)]
      · rw [if_pos (nI_le h3 (by omega))])
    (plc H k x) FU 0 () (by omega) (by unfold FU; omega) trivial
  unfold mX4_placeOf
  rw [show mX4_placeOf_L2 (nI H) (nI x) ks FU 0 = _ from e, ht]
  rfl
theorem index_c (hK : Kc ks ws H k W) (h : Hs H k C) {x : Nat} (hx : x < 2 ^ 31) : (C x → mX4_indexOf (nI H) ks (nI x) = some (nI (plc H k x))) ∧ (¬ C x → mX4_indexOf (nI H) ks (nI x) = some (-1)) := by
  have hH := h.le
  unfold mX4_indexOf
  rw [place_c hK h hx, Option.bind_some]
  constructor
  · intro hC
    obtain ⟨h1, h2⟩ := h.ixe hC
    rw [if_neg (nI_ge h1 (by omega)), hK.key h h1, if_pos (congrArg nI h2)]
  · intro hC
    rcases Nat.lt_or_ge (plc H k x) H with h3 | h3
    · rw [if_neg (nI_ge h3 (by omega)), hK.key h h3, if_neg]
      intro e
      rw [nI_eq (h.v h3).l31 hx] at e
      have := h.c h3
      rw [e] at this
      exact hC this
    · have := plc_le H k x
      rw [if_pos (nI_le h3 (by omega))]
theorem first_c (hK : Kc ks ws H k W) (h : Hs H k C) {x : Nat} (hx : VN x) : ((∃ j, j < H ∧ bgN x (k j)) → mX4_firstWith (nI H) ks (nI x) = some (nI (plc H k x))) ∧ ((¬ ∃ j, j < H ∧ bgN x (k j)) → mX4_firstWith (nI H) ks (nI x) = some (-1)) := by
  have hH := h.le
  unfold mX4_firstWith
  rw [place_c hK h hx.l31, Option.bind_some, h.fw]
  constructor
  · intro ⟨h1, h2⟩
    rw [if_neg (nI_ge h1 (by omega)), hK.key h h1, beg_c hx (h.v h1), if_neg]
    rw [ite01, bgB_f]
    exact fun h3 => h3 h2
  · intro h1
    rcases Nat.lt_or_ge (plc H k x) H with h3 | h3
    · rw [if_neg (nI_ge h3 (by omega)), hK.key h h3, beg_c hx (h.v h3), if_pos]
      rw [ite01, bgB_f]
      exact fun h4 => h1 ⟨h3, h4⟩
    · have := plc_le H k x
      rw [if_pos (nI_le h3 (by omega))]
theorem weightOf_c (hK : Kc ks ws H k W) (h : Hs H k C) (hC : ∀ x, ¬ W x = -1 → C x) {x : Nat} (hx : x < 2 ^ 31) : mX5_weightOf (nI H) ks ws (nI x) = some (W x) := by
  have hH := h.le
  unfold mX5_weightOf
  by_cases h1 : C x
  · obtain ⟨h2, h3⟩ := h.ixe h1
    rw [(index_c hK h hx).1 h1, Option.bind_some, if_neg (q_neg (by omega)), hK.wgt h h2, h3]
  · rw [(index_c hK h hx).2 h1, Option.bind_some, if_pos rfl]
    congr 1
    rcases Classical.em (W x = -1) with h2 | h2
    · exact h2.symm
    · exact absurd (hC x h2) h1
theorem isHome_c (hK : Kc ks ws H k W) (h : Hs H k C) {i : Nat} (hi : i < H) : mX4_isHome ws (nI i) = if hm W (k i) then 1 else 0 := by
  unfold mX4_isHome
  rw [hK.wgt h hi]
  by_cases h1 : W (k i) = -1
  · rw [if_pos h1, if_neg (by rw [hm_iff]; exact fun h2 => h2 h1)]
  · rw [if_neg h1, if_pos (hm_iff.mpr h1)]
theorem known_c (hK : Kc ks ws H k W) (hT : Tn H k C N n W) {x : Nat} (hx : VN x) : mX5_knownLength (nI H) ks (nI x) = some (nI (knl N n x (lnN x))) := by
  have h := hT.1
  have hH := h.le
  have h8 := hx.len
  have key : ∀ l m, l ≤ lnN x → l < m → mX5_knownLength_L5 (nI H) ks (nI x) m (nI l) = some (nI (knl N n x l)) := by
    intro l
    induction l with
    | zero =>
      intro m _ hm
      obtain ⟨m, rfl⟩ : ∃ q, m = q + 1 := ⟨m - 1, by omega⟩
      rw [mX5_knownLength_L5, if_pos (show nI 0 ≤ 0 from nI_le (b := 0) (Nat.le_refl _) (by omega))]
      rfl
    | succ l ih =>
      intro m hl hm
      obtain ⟨m, rfl⟩ : ∃ q, m = q + 1 := ⟨m - 1, by omega⟩
      have v := ct_VN (k := x) (l := l + 1) hx.lt (by omega)
      rw [mX5_knownLength_L5, if_neg (nI_nle (by omega) (by omega)), cut_c (by omega) hx.l31]
      unfold knl
      by_cases e : tB N n (ctN x (l + 1)) = true
      · have h2 := (hT.tb v).mp e
        have h3 := (h.fw.mp h2).1
        rw [(first_c hK h v).1 h2, Option.bind_some, if_neg (q_neg (by omega)), if_pos e]
      · rw [(first_c hK h v).2 (fun h2 => e ((hT.tb v).mpr h2)), Option.bind_some, if_pos rfl, if_neg e, q_m1]
        exact ih m (by omega) (by omega)
  unfold mX5_knownLength
  rw [len_c, key _ FU (Nat.le_refl _) (by unfold FU; omega)]
  rfl
end Cls
