/-! The tree: parents, ways, children, labels, homes. -/
def Hs (H : Nat) (k : Nat → Nat) (C : Nat → Prop) : Prop := En H k C ∧ C 0 ∧ (∀ x, C x → VN x) ∧ H ≤ 193
def Ns (N : Nat) (n : Nat → Nat) (W : Nat → Int32) : Prop := En N n (fun x => ¬ W x = -1) ∧ (∀ x, ¬ W x = -1 → VN x) ∧ N ≤ 24
def hm (W : Nat → Int32) (x : Nat) : Bool := decide (¬ W x = -1)
theorem hm_iff {W : Nat → Int32} {x : Nat} : hm W x = true ↔ ¬ W x = -1 := decide_eq_true_iff
theorem hm_f {W : Nat → Int32} {x : Nat} : hm W x = false ↔ W x = -1 := by
  unfold hm
  rw [decide_eq_false_iff_not, Decidable.not_not]
def prS (k : Nat → Nat) (x : Nat) : Nat → Nat
  | 0 => 0
  | j + 1 => if bgB (k (j + 1)) x then j + 1 else prS k x j
def pr (k : Nat → Nat) (i : Nat) : Nat := prS k (k i) (i - 1)
/-- how many houses are on the way to a prefix -/
def dp (H : Nat) (k : Nat → Nat) (x : Nat) : Nat := cn (fun j => bgB (k j) x) H
def ch (H : Nat) (k : Nat → Nat) (i : Nat) : Nat := cn (fun j => decide (0 < j) && decide (pr k j = i)) H
def lb (k : Nat → Nat) (i : Nat) : Nat := lnN (k i) - lnN (k (pr k i))
theorem Hs.en {H k C} (h : Hs H k C) : En H k C := h.1
theorem Hs.v {H k C} (h : Hs H k C) {i : Nat} (hi : i < H) : VN (k i) := h.2.2.1 _ (h.1.2.1 i hi)
theorem Hs.c {H k C} (h : Hs H k C) {i : Nat} (hi : i < H) : C (k i) := h.1.2.1 i hi
theorem Hs.le {H k C} (h : Hs H k C) : H ≤ 193 := h.2.2.2
theorem Hs.pos {H k C} (h : Hs H k C) : 0 < H := by
  obtain ⟨i, hi, -⟩ := h.1.2.2 0 h.2.1
  omega
theorem Hs.k0 {H k C} (h : Hs H k C) : k 0 = 0 := by
  obtain ⟨i, hi, e⟩ := h.1.2.2 0 h.2.1
  rcases Nat.eq_zero_or_pos i with h1 | h1
  · subst h1; exact e
  · have := h.1.1 0 i h1 hi
    omega
theorem ln_0 : lnN 0 = 0 := rfl
theorem bg_0 {x : Nat} (hx : VN x) : bgN 0 x := by
  rw [bg_iff VN0 hx]
  refine ⟨Nat.zero_le _, ?_⟩
  rw [ln_0, bs_0, Nat.zero_div, Nat.div_eq_of_lt hx.lt]
theorem Hs.bg0 {H k C} (h : Hs H k C) {x : Nat} (hx : VN x) : bgN (k 0) x := by
  rw [h.k0]
  exact bg_0 hx
theorem Hs.ij {H k C} (h : Hs H k C) {i j : Nat} (hi : i < H) (hj : j < H) (hb : bgN (k i) (k j)) : i ≤ j := (h.en.le hi hj).mp hb.1
theorem prS_lt (k : Nat → Nat) (x : Nat) : ∀ j, prS k x j ≤ j
  | 0 => Nat.le_refl _
  | j + 1 => by
    have := prS_lt k x j
    unfold prS
    split <;> omega
theorem prS_bg {k : Nat → Nat} {x : Nat} (h0 : bgN (k 0) x) : ∀ j, bgN (k (prS k x j)) x
  | 0 => h0
  | j + 1 => by
    unfold prS
    split
    · rename_i h; exact bgB_iff.mp h
    · exact prS_bg h0 j
theorem prS_max {k : Nat → Nat} {x : Nat} : ∀ j q, q ≤ j → bgN (k q) x → q ≤ prS k x j
  | 0, q, h, _ => h
  | j + 1, q, h, hb => by
    unfold prS
    split
    · exact h
    · rename_i h1
      rcases Nat.lt_or_ge j q with h2 | h2
      · have : q = j + 1 := by omega
        subst this
        exact absurd (bgB_iff.mpr hb) h1
      · exact prS_max j q h2 hb
theorem pr_0 (k : Nat → Nat) : pr k 0 = 0 := rfl
theorem pr_lt (k : Nat → Nat) {i : Nat} (hi : 0 < i) : pr k i < i := by
  have := prS_lt k (k i) (i - 1)
  unfold pr
  omega
theorem pr_le (k : Nat → Nat) (i : Nat) : pr k i ≤ i := by
  rcases Nat.eq_zero_or_pos i with h | h
  · subst h; exact Nat.le_refl _
  · exact Nat.le_of_lt (pr_lt k h)
theorem Hs.prb {H k C} (h : Hs H k C) {i : Nat} (hi : i < H) : bgN (k (pr k i)) (k i) := prS_bg (h.bg0 (h.v hi)) _
theorem Hs.prm {H k C} (h : Hs H k C) {i j : Nat} (hi : i < H) (hj : j < i) (hb : bgN (k j) (k i)) : j ≤ pr k i := prS_max _ _ (by omega) hb
theorem Hs.pri {H k C} (h : Hs H k C) {i j : Nat} (hi : i < H) (hj : j < i) : bgN (k j) (k i) ↔ bgN (k j) (k (pr k i)) := by
  have hp := pr_lt k (show 0 < i by omega)
  constructor
  · intro hb
    have h1 := h.prm hi hj hb
    exact bg_chain (h.v (by omega)) (h.v (by omega)) (h.v hi) hb (h.prb hi) ((h.en.le (by omega) (by omega)).mpr h1)
  · intro hb
    exact bg_trans (h.v (by omega)) (h.v (by omega)) (h.v hi) hb (h.prb hi)
/-- what is the parent -/
theorem Hs.pru {H k C} (h : Hs H k C) {i j : Nat} (hi : i < H) (hj : j < i) (hb : bgN (k j) (k i)) (hm : ∀ q, j < q → q < i → ¬ bgN (k q) (k i)) : pr k i = j := by
  have h1 := h.prm hi hj hb
  have h2 := pr_lt k (show 0 < i by omega)
  rcases Nat.lt_or_ge j (pr k i) with h3 | h3
  · exact absurd (h.prb hi) (hm _ h3 h2)
  · omega
theorem dp_0 {H k C} (h : Hs H k C) : dp H k (k 0) = 1 := by
  refine cn_one (m := 0) h.pos (bgB_iff.mpr (bg_rfl _)) (fun i hi h0 => bgB_f.mpr (fun hb => ?_))
  have := h.ij hi h.pos hb
  omega
theorem dp_s {H k C} (h : Hs H k C) {i : Nat} (hi : i < H) (h0 : 0 < i) : dp H k (k i) = dp H k (k (pr k i)) + 1 := by
  have hp := pr_lt k h0
  have e : cn (fun j => decide (j = i)) H = 1 := cn_one (m := i) hi (by simp) (fun j _ hj => by simp [hj])
  unfold dp
  rw [← e]
  refine cn_or (fun j hj => ?_) (fun j hj hb => ?_)
  · rw [Bool.eq_iff_iff, Bool.or_eq_true, bgB_iff, bgB_iff, decide_eq_true_iff]
    rcases Nat.lt_trichotomy j i with h1 | h1 | h1
    · rw [h.pri hi h1]
      constructor
      · exact Or.inl
      · intro h2
        rcases h2 with h2 | h2
        · exact h2
        · omega
    · subst h1
      exact ⟨fun _ => Or.inr rfl, fun _ => bg_rfl _⟩
    · constructor
      · intro hb
        have := h.ij hj hi hb
        omega
      · intro hb
        rcases hb with hb | hb
        · have := h.ij hj (by omega) hb
          omega
        · omega
  · rw [bgB_iff] at hb
    have := h.ij hj (by omega) hb
    simp
    omega
theorem dp_pos {H k C} (h : Hs H k C) {x : Nat} (hx : VN x) : 0 < dp H k x := cn_pos (m := 0) h.pos (bgB_iff.mpr (h.bg0 hx))
theorem dp_le {H k C} (h : Hs H k C) (x : Nat) : dp H k x ≤ 193 := Nat.le_trans (cn_le _ _) h.le
/-- the ways are no longer than the names -/
theorem dp_len {H k C} (h : Hs H k C) : ∀ i, i < H → dp H k (k i) ≤ lnN (k i) + 1 := by
  intro i
  induction i using Nat.strongRecOn with
  | ind i ih =>
    intro hi
    rcases Nat.eq_zero_or_pos i with h0 | h0
    · subst h0
      rw [dp_0 h]
      omega
    · have hp := pr_lt k h0
      have := ih _ hp (by omega)
      rw [dp_s h hi h0]
      have h1 := bg_lt (h.v (by omega)) (h.v hi) (h.prb hi) (h.en.1 _ _ hp hi)
      omega
theorem ch_gt {k : Nat → Nat} {i j : Nat} (h : (decide (0 < j) && decide (pr k j = i)) = true) : i < j := by
  rw [Bool.and_eq_true, decide_eq_true_iff, decide_eq_true_iff] at h
  have := pr_lt k h.1
  omega
theorem ch_le (H : Nat) (k : Nat → Nat) (i : Nat) : ch H k i ≤ H := cn_le _ _
/-- where somebody is below, the next one is a child -/
theorem Hs.nxt {H k C} (h : Hs H k C) {i j : Nat} (hj : j < H) (hij : i < j) (hb : bgN (k i) (k j)) : i + 1 < H ∧ pr k (i + 1) = i := by
  have h1 : i + 1 < H := by omega
  refine ⟨h1, h.pru h1 (by omega) ?_ (fun q h2 h3 => by omega)⟩
  exact bg_mid hb ((h.en.le (by omega) h1).mpr (by omega)) ((h.en.le h1 hj).mpr (by omega))
theorem Hs.ixe {H k C} (h : Hs H k C) {x : Nat} (hx : C x) : plc H k x < H ∧ k (plc H k x) = x := by
  obtain ⟨i, hi, e⟩ := h.en.2.2 x hx
  have := h.en.idx hi
  rw [e] at this
  rw [this]
  exact ⟨hi, e⟩
theorem Hs.ixi {H k C} (h : Hs H k C) {i : Nat} (hi : i < H) : plc H k (k i) = i := h.en.idx hi
theorem lb_0 (k : Nat → Nat) : lb k 0 = 0 := Nat.sub_self _
theorem Hs.lbp {H k C} (h : Hs H k C) {i : Nat} (hi : i < H) (h0 : 0 < i) : lnN (k (pr k i)) < lnN (k i) := bg_lt (h.v (by have := pr_lt k h0; omega)) (h.v hi) (h.prb hi) (h.en.1 _ _ (pr_lt k h0) hi)
theorem Hs.lb8 {H k C} (h : Hs H k C) {i : Nat} (hi : i < H) : lb k i ≤ 8 := by
  have := (h.v hi).len
  unfold lb
  omega
/-! Homes among the houses, names by their ranks. -/
theorem hc_plc {H k C N n W} (h : Hs H k C) (hn : Ns N n W) (hC : ∀ x, ¬ W x = -1 → C x) : ∀ j, j < H → cn (fun i => hm W (k i)) j = plc N n (k j) := by
  intro j
  induction j with
  | zero =>
    intro hj
    refine (cn_false (fun r hr => ?_)).symm
    rw [h.k0]
    simp
  | succ j ih =>
    intro hj
    rw [cn_s, ih (by omega)]
    have hlt := h.en.1 j (j + 1) (by omega) hj
    by_cases hh : hm W (k j) = true
    · rw [if_pos hh]
      obtain ⟨r, hr, e⟩ := hn.1.2.2 _ (hm_iff.mp hh)
      have e1 : cn (fun q => decide (q = r)) N = 1 := cn_one (m := r) hr (by simp) (fun q _ hq => by simp [hq])
      unfold plc
      refine Eq.symm (Eq.trans (cn_or (p := fun i => decide (n i < k j)) (q := fun q => decide (q = r)) (fun q hq => ?_) (fun q hq hb => ?_)) (by rw [e1]))
      · rw [Bool.eq_iff_iff, Bool.or_eq_true, decide_eq_true_iff, decide_eq_true_iff, decide_eq_true_iff]
        constructor
        · intro h1
          obtain ⟨i, hi, e2⟩ := h.en.2.2 _ (hC _ (hn.1.2.1 q hq))
          rw [← e2] at h1 ⊢
          have h3 := (h.en.lt hi hj).mp h1
          rcases Nat.lt_or_ge i j with h4 | h4
          · left; exact h.en.1 i j h4 (by omega)
          · right
            have : i = j := by omega
            subst this
            exact hn.1.inj hq hr (by omega)
        · intro h1
          rcases h1 with h1 | h1
          · omega
          · subst h1; omega
      · rw [decide_eq_true_iff] at hb
        simp
        intro e2
        subst e2
        omega
    · rw [if_neg hh, Nat.add_zero]
      refine cn_congr (fun q hq => ?_)
      rw [Bool.eq_iff_iff, decide_eq_true_iff, decide_eq_true_iff]
      constructor
      · intro h1; omega
      · intro h1
        obtain ⟨i, hi, e2⟩ := h.en.2.2 _ (hC _ (hn.1.2.1 q hq))
        rw [← e2] at h1 ⊢
        have h3 := (h.en.lt hi hj).mp h1
        rcases Nat.lt_or_ge i j with h4 | h4
        · exact h.en.1 i j h4 (by omega)
        · have : i = j := by omega
          subst this
          have := hn.1.2.1 q hq
          rw [← e2] at this
          exact absurd (hm_iff.mpr this) hh
theorem hc_n {H k C N n W} (h : Hs H k C) (hn : Ns N n W) (hC : ∀ x, ¬ W x = -1 → C x) {j : Nat} (hj : j < H) (hh : hm W (k j) = true) : cn (fun i => hm W (k i)) j < N ∧ n (cn (fun i => hm W (k i)) j) = k j := by
  obtain ⟨r, hr, e⟩ := hn.1.2.2 _ (hm_iff.mp hh)
  have := hn.1.idx hr
  rw [e] at this
  rw [hc_plc h hn hC j hj, this]
  exact ⟨hr, e⟩
theorem hc_sm {H k C N n W} (h : Hs H k C) (hn : Ns N n W) (hC : ∀ x, ¬ W x = -1 → C x) (f : Nat → Int32) : ∀ j, j ≤ H → sm (fun i => if hm W (k i) then f (k i) else 0) j = sm (fun r => f (n r)) (cn (fun i => hm W (k i)) j)
  | 0, _ => rfl
  | j + 1, hj => by
    rw [sm_s, cn_s, hc_sm h hn hC f j (by omega)]
    by_cases hh : hm W (k j) = true
    · rw [if_pos hh, if_pos hh, sm_s, (hc_n h hn hC (by omega) hh).2]
    · rw [if_neg hh, if_neg hh, Int32.add_zero, Nat.add_zero]
theorem hc_cn {H k C N n W} (h : Hs H k C) (hn : Ns N n W) (hC : ∀ x, ¬ W x = -1 → C x) (q : Nat → Bool) : ∀ j, j ≤ H → cn (fun i => hm W (k i) && q (k i)) j = cn (fun r => q (n r)) (cn (fun i => hm W (k i)) j)
  | 0, _ => rfl
  | j + 1, hj => by
    rw [cn_s, cn_s (fun i => hm W (k i)), hc_cn h hn hC q j (by omega)]
    by_cases hh : hm W (k j) = true
    · rw [if_pos hh, cn_s, (hc_n h hn hC (by omega) hh).2, hh, Bool.true_and]
    · rw [if_neg hh, if_neg (by simp [hh]), Nat.add_zero, Nat.add_zero]
theorem hc_N {H k C N n W} (h : Hs H k C) (hn : Ns N n W) (hC : ∀ x, ¬ W x = -1 → C x) : cn (fun i => hm W (k i)) H = N := by
  have hle : cn (fun i => hm W (k i)) H ≤ N := by
    obtain ⟨m, rfl⟩ : ∃ m, H = m + 1 := ⟨H - 1, by have := h.pos; omega⟩
    rw [cn_s]
    by_cases hh : hm W (k m) = true
    · have := (hc_n h hn hC (by omega) hh).1
      rw [if_pos hh]
      exact this
    · rw [if_neg hh, hc_plc h hn hC m (by omega)]
      exact plc_le _ _ _
  rcases Nat.lt_or_ge (cn (fun i => hm W (k i)) H) N with h1 | h1
  · exfalso
    obtain ⟨i, hi, e⟩ := h.en.2.2 _ (hC _ (hn.1.2.1 _ h1))
    have hh : hm W (k i) = true := by
      rw [hm_iff, e]
      exact hn.1.2.1 _ h1
    obtain ⟨h2, h3⟩ := hc_n h hn hC hi hh
    have h4 := hn.1.inj h2 h1 (by rw [h3, e])
    have h5 : cn (fun i => hm W (k i)) (i + 1) = cn (fun i => hm W (k i)) i + 1 := by
      rw [cn_s, if_pos hh]
    have h6 := cn_mono (fun i => hm W (k i)) (show i + 1 ≤ H from hi)
    omega
  · omega
/-- sums and counts over homes are those over names -/
theorem hs_sm {H k C N n W} (h : Hs H k C) (hn : Ns N n W) (hC : ∀ x, ¬ W x = -1 → C x) (f : Nat → Int32) : sm (fun i => if hm W (k i) then f (k i) else 0) H = sm (fun r => f (n r)) N := by
  rw [hc_sm h hn hC f H (Nat.le_refl _), hc_N h hn hC]
theorem hs_cn {H k C N n W} (h : Hs H k C) (hn : Ns N n W) (hC : ∀ x, ¬ W x = -1 → C x) (q : Nat → Bool) : cn (fun i => hm W (k i) && q (k i)) H = cn (fun r => q (n r)) N := by
  rw [hc_cn h hn hC q H (Nat.le_refl _), hc_N h hn hC]
/-! How many houses there can be. -/
def anyB (g : Nat → Nat) : Nat → Nat → Bool
  | 0, _ => false
  | m + 1, x => anyB g m x || decide (x = g m)
theorem anyB_of (g : Nat → Nat) {x : Nat} : ∀ {M j : Nat}, j < M → g j = x → anyB g M x = true
  | 0, j, h, _ => absurd h (Nat.not_lt_zero _)
  | m + 1, j, h, e => by
    unfold anyB
    rcases Nat.lt_or_ge j m with h1 | h1
    · rw [anyB_of g h1 e]; rfl
    · have : j = m := by omega
      subst this
      rw [e]
      simp
theorem pig {H : Nat} {k : Nat → Nat} {P : Nat → Prop} (h : En H k P) (g : Nat → Nat) : ∀ M, cn (fun i => anyB g M (k i)) H ≤ M
  | 0 => by rw [cn_false (p := fun i => anyB g 0 (k i)) (fun _ _ => rfl)]; exact Nat.le_refl _
  | m + 1 => by
    have h1 := pig h g m
    have h2 : cn (fun i => decide (k i = g m)) H ≤ 1 := by
      rcases Nat.eq_zero_or_pos (cn (fun i => decide (k i = g m)) H) with h3 | h3
      · omega
      · obtain ⟨i, hi, e⟩ := cn_ex h3
        rw [decide_eq_true_iff] at e
        rw [cn_one (m := i) hi (by simp [e]) (fun j hj hji => by
          simp
          intro e2
          exact hji (h.inj hj hi (by omega)))]
        exact Nat.le_refl _
    have h3 : cn (fun i => anyB g (m + 1) (k i)) H ≤ cn (fun i => anyB g m (k i)) H + cn (fun i => decide (k i = g m)) H := by
      have e : cn (fun i => anyB g (m + 1) (k i)) H = cn (fun i => anyB g m (k i)) H + cn (fun i => decide (k i = g m) && !anyB g m (k i)) H := by
        refine cn_or (fun i hi => ?_) (fun i hi hb => ?_)
        · show (anyB g m (k i) || decide (k i = g m)) = _
          cases anyB g m (k i) <;> simp
        · rw [hb]; simp
      have := cn_imp (p := fun i => decide (k i = g m) && !anyB g m (k i)) (q := fun i => decide (k i = g m)) (n := H) (fun i hi hb => by
        rw [Bool.and_eq_true] at hb
        exact hb.1)
      omega
    omega
theorem En.card {H : Nat} {k : Nat → Nat} {P : Nat → Prop} (h : En H k P) (g : Nat → Nat) (M : Nat) (hg : ∀ x, P x → ∃ j, j < M ∧ g j = x) : H ≤ M := by
  have h1 := pig h g M
  rw [cn_true (fun i hi => by
    obtain ⟨j, hj, e⟩ := hg _ (h.2.1 i hi)
    exact anyB_of g hj e)] at h1
  exact h1
theorem En.sub {H M : Nat} {k g : Nat → Nat} {P Q : Nat → Prop} (h : En H k P) (h2 : En M g Q) (hs : ∀ x, P x → Q x) : H ≤ M := h.card g M (fun x hx => h2.2.2 x (hs x hx))
theorem H_le {H : Nat} {k : Nat → Nat} {C : Nat → Prop} {N : Nat} {n : Nat → Nat} (h : En H k C) (hV : ∀ x, C x → VN x) (hn : ∀ r, r < N → VN (n r)) (hp : ∀ x, C x → x ≠ 0 → ∃ r, r < N ∧ bgN x (n r)) : H ≤ 8 * N + 1 := by
  refine h.card (fun j => if j = 0 then 0 else ctN (n ((j - 1) / 8)) ((j - 1) % 8 + 1)) _ (fun x hx => ?_)
  by_cases h0 : x = 0
  · exact ⟨0, by omega, by rw [if_pos rfl]; exact h0.symm⟩
  · obtain ⟨r, hr, hb⟩ := hp x hx h0
    rw [bg_ct (hV x hx) (hn r hr)] at hb
    have hl := (hV x hx).len
    have hl0 : lnN x ≠ 0 := by
      intro e
      have h1 := (hV x hx).eq
      have h2 := (hV x hx).dlt
      rw [e] at h1 h2
      have : x / bsN 0 = 0 := by
        exact Nat.lt_one_iff.mp h2
      rw [this] at h1
      omega
    refine ⟨8 * r + lnN x, by omega, ?_⟩
    have e1 : (8 * r + lnN x - 1) / 8 = r := by omega
    have e2 : (8 * r + lnN x - 1) % 8 + 1 = lnN x := by omega
    show (if 8 * r + lnN x = 0 then 0 else ctN (n ((8 * r + lnN x - 1) / 8)) ((8 * r + lnN x - 1) % 8 + 1)) = x
    rw [if_neg (by omega), e1, e2]
    exact hb.2.symm
