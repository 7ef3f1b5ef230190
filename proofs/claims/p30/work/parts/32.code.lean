/-! The codes of both sides. -/
theorem l8b {l : Nat} (h : l ≤ 8) {P : Nat → Prop} (hP : ∀ l, l < 9 → P l) : P l := hP l (by omega)
theorem bits_c {l : Nat} (h : l ≤ 8) : mX2_bitsBehind (nI l) = nI (shN l) := l8b h (P := fun l => mX2_bitsBehind (nI l) = nI (shN l)) (by decide +kernel)
theorem of_c {a l : Nat} (h : l ≤ 8) : mX2_of (nI a) (nI l) = nI (cdN a l) := by
  unfold mX2_of cdN
  rw [bits_c h, q_shl (sh_lt l)]
  exact q_or (lt_bs h)
theorem len_c (k : Nat) : mX2_length (nI k) = nI (lnN k) := q_15 k
theorem ln_lt (k : Nat) : lnN k < 16 := Nat.mod_lt _ (by decide)
theorem let_c {k : Nat} (h : lnN k ≤ 8) (hk : k < 2 ^ 31) : mX2_letters (nI k) = nI (k / bsN (lnN k)) := by
  unfold mX2_letters
  rw [len_c, bits_c h, q_shr (sh_lt _) hk]
  rfl
theorem cut_c {k l : Nat} (h : l ≤ 8) (hk : k < 2 ^ 31) : mX2_cut (nI k) (nI l) = nI (ctN k l) := by
  unfold mX2_cut ctN
  rw [bits_c h, q_shr (sh_lt _) hk, q_shl (sh_lt _)]
  exact q_or (lt_bs h)
def bgB (p k : Nat) : Bool := decide (p ≤ k) && decide (k < tpN p)
theorem bgB_iff {p k : Nat} : bgB p k = true ↔ bgN p k := by
  unfold bgB bgN
  rw [Bool.and_eq_true, decide_eq_true_iff, decide_eq_true_iff]
theorem bgB_f {p k : Nat} : bgB p k = false ↔ ¬ bgN p k := by
  rw [← bgB_iff, Bool.not_eq_true]
theorem VN.l31 {k : Nat} (h : VN k) : k < 2 ^ 31 := by
  have := h.lt
  omega
theorem beg_c {p k : Nat} (hp : VN p) (hk : VN k) : mX2_isBeginning (nI p) (nI k) = if bgB p k then 1 else 0 := by
  have h1 := hp.len
  have h2 := hk.len
  have e := bg_iff hp hk
  have d1 : p / bsN (lnN p) ≤ p := Nat.div_le_self _ _
  have d2 : k / bsN (lnN p) ≤ k := Nat.div_le_self _ _
  have := hp.lt
  have := hk.lt
  unfold mX2_isBeginning
  rw [len_c, len_c, bits_c h1, q_shr (sh_lt _) hp.l31, q_shr (sh_lt _) hk.l31]
  by_cases h3 : lnN k < lnN p
  · rw [if_pos (nI_lt h3 (by omega)), if_neg]
    rw [bgB_iff, e]
    omega
  · rw [if_neg (nI_nlt (by omega) (by omega))]
    show (if nI (p / bsN (lnN p)) = nI (k / bsN (lnN p)) then (1 : Int32) else 0) = _
    by_cases h4 : p / bsN (lnN p) = k / bsN (lnN p)
    · rw [if_pos (congrArg nI h4), if_pos]
      rw [bgB_iff, e]
      exact ⟨by omega, h4⟩
    · rw [if_neg, if_neg]
      · rw [bgB_iff, e]
        exact fun h => h4 h.2
      · intro h5
        exact h4 ((nI_eq (show p / bsN (lnN p) < 2 ^ 31 by omega) (show k / bsN (lnN p) < 2 ^ 31 by omega)).mp h5)
theorem m8_c {j : Nat} (h : j ≤ 8) : ((1 : Int32) <<< ((3 * nI j) &&& 31)) - 1 = nI (8 ^ j - 1) := l8b h (P := fun j => ((1 : Int32) <<< ((3 * nI j) &&& 31)) - 1 = nI (8 ^ j - 1)) (by decide +kernel)
theorem p82 (j : Nat) : 8 ^ j = 2 ^ (3 * j) := by rw [Nat.pow_mul]
theorem last_c {k j : Nat} (h : lnN k ≤ 8) (hk : k < 2 ^ 31) (hj : j ≤ 8) : mX2_lastLetters (nI k) (nI j) = nI (k / bsN (lnN k) % 8 ^ j) := by
  unfold mX2_lastLetters
  rw [let_c h hk, m8_c hj, p82, q_mask]
theorem ite01 (b : Bool) : ((if b then (1 : Int32) else 0) = 0) ↔ b = false := by cases b <;> decide
