/-! Rows at places, sums and counts, loops by what stays true. -/
theorem upd_at (f : Nat → Int32) (i : Nat) (v : Int32) : upd f i v i = v := if_pos rfl
theorem upd_of {f : Nat → Int32} {i j : Nat} {v : Int32} (h : j ≠ i) : upd f i v j = f j := if_neg h
theorem at_nI {N i : Nat} (f : Nat → Int32) (hi : i < N) (hN : N < 2 ^ 31) : mX3_at N f (nI i) = f i := by
  unfold mX3_at
  rw [if_neg (nI_pos (by omega)), if_neg (show ¬ Int32.ofNat N ≤ nI i from nI_ge hi hN), nI_clamp (by omega)]
theorem put_nI {N i : Nat} (f : Nat → Int32) (v : Int32) (hi : i < N) (hN : N < 2 ^ 31) : mX3_put N f (nI i) v = some (upd f i v) := by
  unfold mX3_put
  rw [if_neg (nI_pos (by omega)), if_neg (show ¬ Int32.ofNat N ≤ nI i from nI_ge hi hN), nI_clamp (by omega)]
theorem inc_nI {N i : Nat} (f : Nat → Int32) (v : Int32) (hi : i < N) (hN : N < 2 ^ 31) : mX3_increase N f (nI i) v = some (upd f i (f i + v)) := by
  unfold mX3_increase
  rw [at_nI f hi hN, put_nI _ _ hi hN]
  rfl
theorem rd_nI {N i : Nat} (f : Nat → Int32) (hi : i < N) (hN : N < 2 ^ 31) : rdA N f (nI i) = some (f i) := by
  unfold rdA
  rw [if_neg (nI_in hi hN), nI_clamp (by omega)]
theorem wr_nI {N i : Nat} (f : Nat → Int32) (v : Int32) (hi : i < N) (hN : N < 2 ^ 31) : wrA N f (nI i) v = some (upd f i v) := by
  unfold wrA
  rw [if_neg (nI_in hi hN), nI_clamp (by omega)]
/-- a loop that counts up -/
theorem lpI {S T : Type} (L : Nat → Nat → S → Option T) (N : Nat) (I : Nat → S → Prop) (R : T → Prop)
    (hs : ∀ n i s, i < N → I i s → ∃ s', I (i + 1) s' ∧ L (n + 1) i s = L n (i + 1) s')
    (he : ∀ n s, I N s → ∃ t, R t ∧ L (n + 1) N s = some t) :
    ∀ d n i s, i + d = N → d < n → I i s → ∃ t, R t ∧ L n i s = some t := by
  intro d
  induction d with
  | zero =>
    intro n i s h1 h2 h3
    obtain ⟨m, rfl⟩ : ∃ m, n = m + 1 := ⟨n - 1, by omega⟩
    have : i = N := by omega
    subst this
    exact he m s h3
  | succ d ih =>
    intro n i s h1 h2 h3
    obtain ⟨m, rfl⟩ : ∃ m, n = m + 1 := ⟨n - 1, by omega⟩
    obtain ⟨s', h4, h5⟩ := hs m i s (by omega) h3
    rw [h5]
    exact ih m (i + 1) s' (by omega) (by omega) h4
/-- a loop that counts down -/
theorem lpD {S T : Type} (L : Nat → Nat → S → Option T) (lo : Nat) (I : Nat → S → Prop) (R : T → Prop)
    (hs : ∀ n i s, lo ≤ i → I (i + 1) s → ∃ s', I i s' ∧ L (n + 1) (i + 1) s = L n i s')
    (he : ∀ n s, I lo s → ∃ t, R t ∧ L (n + 1) lo s = some t) :
    ∀ d n i s, i = lo + d → d < n → I i s → ∃ t, R t ∧ L n i s = some t := by
  intro d
  induction d with
  | zero =>
    intro n i s h1 h2 h3
    obtain ⟨m, rfl⟩ : ∃ m, n = m + 1 := ⟨n - 1, by omega⟩
    have : i = lo := by omega
    subst this
    exact he m s h3
  | succ d ih =>
    intro n i s h1 h2 h3
    obtain ⟨m, rfl⟩ : ∃ m, n = m + 1 := ⟨n - 1, by omega⟩
    have : i = (lo + d) + 1 := by omega
    subst this
    obtain ⟨s', h4, h5⟩ := hs m (lo + d) s (by omega) h3
    rw [h5]
    exact ih m (lo + d) s' rfl (by omega) h4
def sm (f : Nat → Int32) : Nat → Int32
  | 0 => 0
  | n + 1 => sm f n + f n
def cn (p : Nat → Bool) : Nat → Nat
  | 0 => 0
  | n + 1 => cn p n + (if p n then 1 else 0)
theorem cn_s (p : Nat → Bool) (n : Nat) : cn p (n + 1) = cn p n + (if p n then 1 else 0) := rfl
theorem sm_s (f : Nat → Int32) (n : Nat) : sm f (n + 1) = sm f n + f n := rfl
theorem sm_congr {f g : Nat → Int32} : ∀ {n : Nat}, (∀ i, i < n → f i = g i) → sm f n = sm g n
  | 0, _ => rfl
  | n + 1, h => by
    unfold sm
    rw [sm_congr (n := n) (fun i hi => h i (by omega)), h n (by omega)]
theorem cn_congr {p q : Nat → Bool} : ∀ {n : Nat}, (∀ i, i < n → p i = q i) → cn p n = cn q n
  | 0, _ => rfl
  | n + 1, h => by
    unfold cn
    rw [cn_congr (n := n) (fun i hi => h i (by omega)), h n (by omega)]
theorem cn_le (p : Nat → Bool) : ∀ n : Nat, cn p n ≤ n
  | 0 => Nat.le_refl _
  | n + 1 => by
    have := cn_le p n
    unfold cn
    split <;> omega
theorem cn_mono (p : Nat → Bool) {m n : Nat} (h : m ≤ n) : cn p m ≤ cn p n := by
  induction n with
  | zero => have : m = 0 := by omega
            subst this; exact Nat.le_refl _
  | succ n ih =>
    rcases Nat.lt_or_ge n m with h1 | h1
    · have : m = n + 1 := by omega
      subst this; exact Nat.le_refl _
    · have := ih h1
      have e : cn p (n + 1) = cn p n + (if p n then 1 else 0) := rfl
      omega
theorem cn_imp {p q : Nat → Bool} : ∀ {n : Nat}, (∀ i, i < n → p i = true → q i = true) → cn p n ≤ cn q n
  | 0, _ => Nat.le_refl _
  | n + 1, h => by
    have h1 := cn_imp (n := n) (fun i hi => h i (by omega))
    have h2 := h n (by omega)
    unfold cn
    split
    · rename_i h3
      rw [if_pos (h2 h3)]
      omega
    · split <;> omega
theorem cn_false {p : Nat → Bool} : ∀ {n : Nat}, (∀ i, i < n → p i = false) → cn p n = 0
  | 0, _ => rfl
  | n + 1, h => by
    unfold cn
    rw [cn_false (n := n) (fun i hi => h i (by omega)), h n (by omega)]
    rfl
theorem cn_true {p : Nat → Bool} : ∀ {n : Nat}, (∀ i, i < n → p i = true) → cn p n = n
  | 0, _ => rfl
  | n + 1, h => by
    unfold cn
    rw [cn_true (n := n) (fun i hi => h i (by omega)), h n (by omega)]
    rfl
/-- a count over two pieces -/
theorem cn_add (p : Nat → Bool) (m : Nat) : ∀ n : Nat, cn p (m + n) = cn p m + cn (fun i => p (m + i)) n
  | 0 => rfl
  | n + 1 => by
    rw [← Nat.add_assoc, cn_s, cn_s, cn_add p m n, Nat.add_assoc]
theorem sm_add (f : Nat → Int32) (m : Nat) : ∀ n : Nat, sm f (m + n) = sm f m + sm (fun i => f (m + i)) n
  | 0 => (Int32.add_zero _).symm
  | n + 1 => by
    show sm f (m + n) + _ = _
    rw [sm_add f m n, Int32.add_assoc]
    rfl
theorem sm_zero {f : Nat → Int32} : ∀ {n : Nat}, (∀ i, i < n → f i = 0) → sm f n = 0
  | 0, _ => rfl
  | n + 1, h => by
    unfold sm
    rw [sm_zero (n := n) (fun i hi => h i (by omega)), h n (by omega)]
    rfl
/-- a first part of which all is counted, and behind it nothing -/
theorem cn_cut {p : Nat → Bool} {m n : Nat} (hm : m ≤ n) (h1 : ∀ i, i < m → p i = true) (h2 : ∀ i, m ≤ i → i < n → p i = false) : cn p n = m := by
  obtain ⟨d, rfl⟩ : ∃ d, n = m + d := ⟨n - m, by omega⟩
  rw [cn_add, cn_true h1, cn_false (fun i hi => h2 _ (by omega) (by omega))]
  rfl
theorem sm_nI (p : Nat → Bool) : ∀ n : Nat, sm (fun i => if p i then 1 else 0) n = nI (cn p n)
  | 0 => rfl
  | n + 1 => by
    rw [sm_s, cn_s, sm_nI p n, ← nI_add]
    cases h : p n <;> simp [h] <;> rfl
theorem cn_or {p q r : Nat → Bool} : ∀ {n : Nat}, (∀ i, i < n → r i = (p i || q i)) → (∀ i, i < n → p i = true → q i = false) → cn r n = cn p n + cn q n
  | 0, _, _ => rfl
  | n + 1, h, hd => by
    have ih := cn_or (n := n) (fun i hi => h i (by omega)) (fun i hi => hd i (by omega))
    have h1 := h n (by omega)
    have h2 := hd n (by omega)
    unfold cn
    rw [ih, h1]
    cases e : p n <;> cases e2 : q n
    · simp
    · simp; omega
    · simp; omega
    · rw [e2] at h2; exact absurd (h2 e) (by decide)
theorem cn_one {p : Nat → Bool} {m n : Nat} (hm : m < n) (h1 : p m = true) (h2 : ∀ i, i < n → i ≠ m → p i = false) : cn p n = 1 := by
  obtain ⟨d, rfl⟩ : ∃ d, n = (m + 1) + d := ⟨n - (m + 1), by omega⟩
  rw [cn_add, cn_false (p := fun i => p (m + 1 + i)) (fun i hi => h2 _ (by omega) (by omega))]
  show cn p m + _ + 0 = 1
  rw [cn_false (fun i hi => h2 i (by omega) (by omega)), h1]
  rfl
theorem cn_pos {p : Nat → Bool} {m n : Nat} (hm : m < n) (h1 : p m = true) : 0 < cn p n := by
  have h := cn_mono p (show m + 1 ≤ n from hm)
  have : cn p (m + 1) = cn p m + (if p m then 1 else 0) := rfl
  rw [h1] at this
  simp at this
  omega
theorem cn_ex {p : Nat → Bool} : ∀ {n : Nat}, 0 < cn p n → ∃ i, i < n ∧ p i = true
  | 0, h => absurd h (Nat.lt_irrefl 0)
  | n + 1, h => by
    cases e : p n
    · rw [cn_s, e] at h
      simp at h
      obtain ⟨i, hi, h3⟩ := cn_ex (n := n) h
      exact ⟨i, by omega, h3⟩
    · exact ⟨n, by omega, e⟩
/-! What is listed in order. -/
def En (N : Nat) (n : Nat → Nat) (P : Nat → Prop) : Prop := (∀ i j, i < j → j < N → n i < n j) ∧ (∀ i, i < N → P (n i)) ∧ ∀ x, P x → ∃ i, i < N ∧ n i = x
theorem En.lt {N : Nat} {n : Nat → Nat} {P : Nat → Prop} (h : En N n P) {i j : Nat} (hi : i < N) (hj : j < N) : n i < n j ↔ i < j := by
  constructor
  · intro h1
    rcases Nat.lt_trichotomy i j with h2 | h2 | h2
    · exact h2
    · subst h2; omega
    · have := h.1 j i h2 hi; omega
  · intro h1; exact h.1 i j h1 hj
theorem En.le {N : Nat} {n : Nat → Nat} {P : Nat → Prop} (h : En N n P) {i j : Nat} (hi : i < N) (hj : j < N) : n i ≤ n j ↔ i ≤ j := by
  have := h.lt hj hi
  omega
theorem En.inj {N : Nat} {n : Nat → Nat} {P : Nat → Prop} (h : En N n P) {i j : Nat} (hi : i < N) (hj : j < N) (e : n i = n j) : i = j := by
  have h1 := h.lt hi hj
  have h2 := h.lt hj hi
  omega
theorem En.uniq0 {N M : Nat} {n m : Nat → Nat} {P : Nat → Prop} (h1 : En N n P) (h2 : En M m P) : ∀ i, i < N → i < M ∧ n i = m i := by
  intro i
  induction i using Nat.strongRecOn with
  | ind i ih =>
    intro hi
    obtain ⟨j, hj, e⟩ := h2.2.2 _ (h1.2.1 i hi)
    rcases Nat.lt_trichotomy j i with h | h | h
    · obtain ⟨-, h3⟩ := ih j h (by omega)
      have := h1.1 j i h hi
      omega
    · subst h; exact ⟨hj, e.symm⟩
    · -- m i < m j = n i, so m i stands among the n's before i
      have h3 := h2.1 i j h hj
      obtain ⟨q, hq, e2⟩ := h1.2.2 _ (h2.2.1 i (by omega))
      have h4 : q < i := (h1.lt hq hi).mp (by omega)
      obtain ⟨h5, h6⟩ := ih q h4 (by omega)
      have := h2.1 q i h4 (by omega)
      omega
theorem En.uniq {N M : Nat} {n m : Nat → Nat} {P : Nat → Prop} (h1 : En N n P) (h2 : En M m P) : N = M ∧ ∀ i, i < N → n i = m i := by
  have a := h1.uniq0 h2
  have b := h2.uniq0 h1
  refine ⟨?_, fun i hi => (a i hi).2⟩
  rcases Nat.lt_trichotomy N M with h | h | h
  · have := (b N h).1; omega
  · exact h
  · have := (a M h).1; omega
theorem En.congr {N : Nat} {n : Nat → Nat} {P Q : Nat → Prop} (h : En N n P) (hPQ : ∀ x, P x ↔ Q x) : En N n Q :=
  ⟨h.1, fun i hi => (hPQ _).mp (h.2.1 i hi), fun x hx => h.2.2 x ((hPQ x).mpr hx)⟩
/-- how many of a list stand before a number: its place -/
def plc (N : Nat) (n : Nat → Nat) (x : Nat) : Nat := cn (fun i => decide (n i < x)) N
theorem plc_le (N : Nat) (n : Nat → Nat) (x : Nat) : plc N n x ≤ N := cn_le _ _
theorem En.place {N : Nat} {n : Nat → Nat} {P : Nat → Prop} (h : En N n P) (x : Nat) : (∀ i, i < plc N n x → n i < x) ∧ ∀ i, plc N n x ≤ i → i < N → x ≤ n i := by
  have key : ∀ M, M ≤ N → ∀ i, i < N → (n i < x → i < M → i < cn (fun i => decide (n i < x)) M) ∧ (¬ n i < x → cn (fun i => decide (n i < x)) M ≤ i) := by
    intro M
    induction M with
    | zero => intro _ i hi; exact ⟨fun _ h => absurd h (by omega), fun _ => Nat.zero_le _⟩
    | succ M ih =>
      intro hM i hi
      have e : cn (fun i => decide (n i < x)) (M + 1) = cn (fun i => decide (n i < x)) M + (if n M < x then 1 else 0) := by
        show _ + _ = _
        by_cases h1 : n M < x <;> simp [h1]
      obtain ⟨i1, i2⟩ := ih (by omega) i hi
      constructor
      · intro h1 h2
        rcases Nat.lt_or_ge i M with h3 | h3
        · have := i1 h1 h3
          omega
        · have : i = M := by omega
          subst this
          rw [e, if_pos h1]
          have : cn (fun i => decide (n i < x)) i = i := cn_true (fun j hj => by
            have := h.1 j i hj hi
            simp; omega)
          omega
      · intro h1
        have := i2 h1
        rw [e]
        split
        · rename_i h3
          have h4 : M < i := (h.lt (by omega) hi).mp (by omega)
          have := cn_le (fun i => decide (n i < x)) M
          omega
        · omega
  constructor
  · intro i hi
    have hN : i < N := Nat.lt_of_lt_of_le hi (plc_le N n x)
    rcases Nat.lt_or_ge (n i) x with h1 | h1
    · exact h1
    · have := (key N (Nat.le_refl _) i hN).2 (by omega)
      have h3 : plc N n x = cn (fun i => decide (n i < x)) N := rfl
      omega
  · intro i h1 hN
    rcases Nat.lt_or_ge (n i) x with h2 | h2
    · have := (key N (Nat.le_refl _) i hN).1 h2 hN
      have h3 : plc N n x = cn (fun i => decide (n i < x)) N := rfl
      omega
    · exact h2
/-- the place of what is listed -/
theorem En.idx {N : Nat} {n : Nat → Nat} {P : Nat → Prop} (h : En N n P) {i : Nat} (hi : i < N) : plc N n (n i) = i := by
  refine cn_cut (by omega) (fun j hj => ?_) (fun j h1 h2 => ?_)
  · have := h.1 j i hj hi
    simp; omega
  · have := (h.le hi h2).mpr h1
    simp; omega
/-- one more is listed, at its place -/
def insN (n : Nat → Nat) (p x : Nat) : Nat → Nat := fun i => if i < p then n i else if i = p then x else n (i - 1)
/-- one less is listed -/
def delN (n : Nat → Nat) (p : Nat) : Nat → Nat := fun i => if i < p then n i else n (i + 1)
