/-! The codes of both sides. -/
theorem l8b {l : Nat} (h : l ≤ 8) {P : Nat → Prop} (hP : ∀ l, l < 9 → P l) : P l := hP l (by omega)
theorem bits_c {l : Nat} (h : l ≤ 8) : mX2_bitsBehind (nI l) = nI (shN l) := l8b h (P := fun l => mX2_bitsBehind (nI l) = nI (shN l)) (by decide +kernel)
theorem of_c {a l : Nat} (h : l ≤ 8) : mX2_of (nI a) (nI l) = nI (cdN a l) := by
  unfold mX2_of cdN
  rw [bits_c h, q_shl (sh_lt l)]
  exact q_or (lt_bs h)
theorem len_c (k : Nat) : mX2_length (nI k) = nI (lnN k) := q_15 k
theorem ln_lt (k : Nat) : lnN k < 16 := Nat.mod_lt _ (by decide)
theorem let_c {k : Nat} (h : lnN k ≤ 8) (hk : k < 2 ^ 31) : mX2_letters (nI k) = nI (k / bsN (lnN k)) := by
  unfold mX2_letters
  rw [len_c, bits_c h, q_shr (sh_lt _) hk]
  rfl
theorem cut_c {k l : Nat} (h : l ≤ 8) (hk : k < 2 ^ 31) : mX2_cut (nI k) (nI l) = nI (ctN k l) := by
  unfold mX2_cut ctN
  rw [bits_c h, q_shr (sh_lt _) hk, q_shl (sh_lt _)]
  exact q_or (lt_bs h)
def bgB (p k : Nat) : Bool := decide (p ≤ k) && decide (k < tpN p)
theorem bgB_iff {p k : Nat} : bgB p k = true ↔ bgN p k := by
  unfold bgB bgN
  rw [Bool.and_eq_true, decide_eq_true_iff, decide_eq_true_iff]
theorem bgB_f {p k : Nat} : bgB p k = false ↔ ¬ bgN p k := by
  rw [← bgB_iff, Bool.not_eq_true]
theorem VN.l31 {k : Nat} (h : VN k) : k < 2 ^ 31 := by
  have := h.lt
  omega
theorem beg_c {p k : Nat} (hp : VN p) (hk : VN k) : mX2_isBeginning (nI p) (nI k) = if bgB p k then 1 else 0 := by
  have h1 := hp.len
  have h2 := hk.len
  have e := bg_iff hp hk
  have d1 : p / bsN (lnN p) ≤ p := Nat.div_le_self _ _
  have d2 : k / bsN (lnN p) ≤ k := Nat.div_le_self _ _
  have := hp.lt
  have := hk.lt
  unfold mX2_isBeginning
  rw [len_c, len_c, bits_c h1, q_shr (sh_lt _) hp.l31, q_shr (sh_lt _) hk.l31]
  by_cases h3 : lnN k < lnN p
  · rw [if_pos (nI_lt h3 (by omega)), if_neg]
    rw [bgB_iff, e]
    omega
  · rw [if_neg (nI_nlt (by omega) (by omega))]
    show (if nI (p / bsN (lnN p)) = nI (k / bsN (lnN p)) then (1 : Int32) else 0) = _
    by_cases h4 : p / bsN (lnN p) = k / bsN (lnN p)
    · rw [if_pos (congrArg nI h4), if_pos]
      rw [bgB_iff, e]
      exact ⟨by omega, h4⟩
    · rw [if_neg, if_neg]
      · rw [bgB_iff, e]
        exact fun h => h4 h.2
      · intro h5
        exact h4 ((nI_eq (show p / bsN (lnN p) < 2 ^ 31 by omega) (show k / bsN (lnN p) < 2 ^ 31 by omega)).mp h5)
theorem m8_c {j : Nat} (h : j ≤ 8) : ((1 : Int32) <<< ((3 * nI j) &&& 31)) - 1 = nI (8 ^ j - 1) := l8b h (P := fun j => ((1 : Int32) <<< ((3 * nI j) &&& 31)) - 1 = nI (8 ^ j - 1)) (by decide +kernel)
theorem p82 (j : Nat) : 8 ^ j = 2 ^ (3 * j) := by rw [Nat.pow_mul]
theorem last_c {k j : Nat} (h : lnN k ≤ 8) (hk : k < 2 ^ 31) (hj : j ≤ 8) : mX2_lastLetters (nI k) (nI j) = nI (k / bsN (lnN k) % 8 ^ j) := by
  unfold mX2_lastLetters
  rw [let_c h hk, m8_c hj, p82, q_mask]
theorem code_c {a l : Nat} (h : l ≤ 8) : mX8_code (nI a) (nI l) = nI (cdN a l) := by
  unfold mX8_code cdN
  have e1 : (3 * (8 - nI l) : Int32) = nI (3 * (8 - l)) := l8b h (P := fun l => (3 * (8 - nI l) : Int32) = nI (3 * (8 - l))) (by decide +kernel)
  have e2 : (4 &&& 31 : Int32) = nI 4 &&& 31 := rfl
  rw [e1, q_shl (by omega), e2, q_shl (by omega)]
  have e3 : a * 2 ^ (3 * (8 - l)) * 2 ^ 4 = a * 2 ^ shN l := by
    unfold shN
    rw [Nat.mul_assoc, ← Nat.pow_add, Nat.add_comm 4]
  rw [e3]
  exact q_or (lt_bs h)
theorem lof_c (k : Nat) : mX8_lengthOf (nI k) = nI (lnN k) := q_15 k
theorem sub8_c {l : Nat} (h : l ≤ 8) : (3 * (8 - nI l) : Int32) = nI (3 * (8 - l)) := l8b h (P := fun l => (3 * (8 - nI l) : Int32) = nI (3 * (8 - l))) (by decide +kernel)
theorem lets_c {k : Nat} (h : lnN k ≤ 8) (hk : k < 2 ^ 31) : mX8_lettersOf (nI k) = nI (k / bsN (lnN k)) := by
  unfold mX8_lettersOf
  have e2 : (4 &&& 31 : Int32) = nI 4 &&& 31 := rfl
  have d : k / 2 ^ 4 ≤ k := Nat.div_le_self _ _
  rw [lof_c, sub8_c h, e2, q_shr (by omega) hk, q_shr (by omega) (by omega), Nat.div_div_eq_div_mul, ← Nat.pow_add]
  rfl
theorem sht_c {k l : Nat} (hk : VN k) (hl : l ≤ lnN k) : mX8_shortened (nI k) (nI l) = nI (ctN k l) := by
  have h8 := hk.len
  unfold mX8_shortened
  have d : k / bsN (lnN k) ≤ k := Nat.div_le_self _ _
  have := hk.lt
  have e3 : (3 : Int32) = nI 3 := rfl
  rw [lets_c h8 hk.l31, lof_c, q_sub hl, e3, q_mul, q_shr (by omega) (by omega), code_c (by omega)]
  unfold ctN cdN
  have e := div_sh (k := k) (l := l) (d := lnN k - l) (by omega)
  rw [show l + (lnN k - l) = lnN k by omega] at e
  rw [e, p82]
theorem begs_c {p k : Nat} (hp : VN p) (hk : VN k) : mX8_begins (nI p) (nI k) = if bgB p k then 1 else 0 := by
  have h1 := hp.len
  have h2 := hk.len
  have := hp.lt
  have := hk.lt
  unfold mX8_begins
  rw [lof_c, lof_c]
  by_cases h3 : lnN k < lnN p
  · rw [if_pos (nI_lt h3 (by omega)), if_neg]
    rw [bgB_iff, bg_ct hp hk]
    omega
  · rw [if_neg (nI_nlt (by omega) (by omega)), sht_c hk (by omega)]
    have h5 := (ct_VN (k := k) (l := lnN p) hk.lt h1).lt
    by_cases h4 : p = ctN k (lnN p)
    · rw [if_pos (congrArg nI h4.symm), if_pos]
      rw [bgB_iff, bg_ct hp hk]
      exact ⟨by omega, h4⟩
    · rw [if_neg, if_neg]
      · rw [bgB_iff, bg_ct hp hk]
        exact fun h => h4 h.2
      · intro h6
        exact h4 ((nI_eq (by omega) (by omega)).mp h6).symm
theorem ite01 (b : Bool) : ((if b then (1 : Int32) else 0) = 0) ↔ b = false := by cases b <;> decide
theorem lnm_c {k j : Nat} (h : lnN k ≤ 8) (hk : k < 2 ^ 31) (hj : j ≤ 8) : (mX8_lettersOf (nI k)) &&& (((1 : Int32) <<< ((3 * nI j) &&& 31)) - 1) = nI (k / bsN (lnN k) % 8 ^ j) := by
  rw [lets_c h hk, m8_c hj, p82, q_mask]
/-- what a prefix's two numbers must be -/
theorem pre_c {p1 p2 : Int32} {s : Nat} (hs : s ≤ 1) : mX8_isPrefix p1 p2 (nI s) = 0 ∨ (mX8_isPrefix p1 p2 (nI s) = 1 ∧ ∃ a l : Nat, s ≤ l ∧ l ≤ 8 ∧ a < 8 ^ l ∧ p1 = nI a ∧ p2 = nI l) := by
  unfold mX8_isPrefix
  unfold mX8_within
  by_cases h1 : p2 < nI s
  · left; simp [h1]
  rw [if_neg h1]
  by_cases h2 : 8 < p2
  · left; simp [h2]
  rw [if_neg h2, if_neg (by decide)]
  obtain ⟨l, hl, e⟩ := nI_of2 (x := p2) (M := 8) (n := 8) rfl (by
    intro h3
    rw [Int32.lt_iff_toInt_lt] at h1 h3
    have : (nI s).toInt = s := nI_toInt (by omega)
    rw [this] at h1
    have : (0 : Int32).toInt = 0 := rfl
    omega) (Int32.not_lt.mp h2)
  subst e
  rw [m8_c hl]
  by_cases h3 : p1 < 0
  · left; simp [h3]
  rw [if_neg h3]
  obtain ⟨a, ha, e⟩ := nI_of h3
  subst e
  have h8 : 8 ^ l ≤ 8 ^ 8 := Nat.pow_le_pow_right (by decide) hl
  have h8' : 0 < 8 ^ l := Nat.pow_pos (by decide)
  by_cases h4 : nI (8 ^ l - 1) < nI a
  · left; simp [h4]
  right
  rw [if_neg h4, if_neg (by decide)]
  refine ⟨rfl, a, l, ?_, hl, ?_, rfl, rfl⟩
  · rcases Nat.lt_or_ge l s with h5 | h5
    · exact absurd (nI_lt h5 (by omega)) h1
    · exact h5
  · rcases Nat.lt_or_ge a (8 ^ l) with h5 | h5
    · exact h5
    · exact absurd (nI_lt (show 8 ^ l - 1 < a by omega) ha) h4
