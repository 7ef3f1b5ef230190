/-! Numbers: shifts, masks and sums of what is not negative; codes of prefixes. -/
theorem q_s : ∀ n, n < 32 → ((nI n &&& 31).toBitVec.smod 32).toNat = n := by decide +kernel
theorem q_shr {a s : Nat} (hs : s < 32) (h : a < 2 ^ 31) : nI a >>> (nI s &&& 31) = nI (a / 2 ^ s) := by
  have hd : a / 2 ^ s ≤ a := Nat.div_le_self _ _
  apply Int32.toInt_inj.mp
  have e : (nI a >>> (nI s &&& 31)).toInt = (nI a).toInt >>> s := by
    conv => rhs; rw [← q_s s hs]
    exact BitVec.toInt_sshiftRight ..
  rw [e, Int.shiftRight_eq_div_pow, nI_toInt h, nI_toInt (by omega)]
  rfl
theorem q_shl {a s : Nat} (hs : s < 32) : nI a <<< (nI s &&& 31) = nI (a * 2 ^ s) := by
  apply Int32.toBitVec_inj.1
  rw [Int32.toBitVec_shiftLeft]
  show (BitVec.ofNat 32 a <<< ((nI s &&& 31).toBitVec.smod 32).toNat) = BitVec.ofNat 32 (a * 2 ^ s)
  rw [q_s s hs]
  apply BitVec.eq_of_toNat_eq
  rw [BitVec.toNat_shiftLeft, BitVec.toNat_ofNat, BitVec.toNat_ofNat, Nat.shiftLeft_eq, Nat.mod_mul_mod]
theorem q_and (a b : Nat) : nI a &&& nI b = nI (a &&& b) := by
  apply Int32.toBitVec_inj.1
  show BitVec.ofNat 32 a &&& BitVec.ofNat 32 b = BitVec.ofNat 32 (a &&& b)
  apply BitVec.eq_of_getLsbD_eq
  intro i hi
  simp [hi]
theorem q_orx (a b : Nat) : nI a ||| nI b = nI (a ||| b) := by
  apply Int32.toBitVec_inj.1
  show BitVec.ofNat 32 a ||| BitVec.ofNat 32 b = BitVec.ofNat 32 (a ||| b)
  apply BitVec.eq_of_getLsbD_eq
  intro i hi
  simp [hi]
theorem q_or {a k b : Nat} (h : b < 2 ^ k) : nI (a * 2 ^ k) ||| nI b = nI (a * 2 ^ k + b) := by
  rw [q_orx, ← Nat.shiftLeft_eq, Nat.shiftLeft_add_eq_or_of_lt h]
theorem q_15 (a : Nat) : nI a &&& 15 = nI (a % 16) := by
  have h := q_and a (2 ^ 4 - 1)
  rw [Nat.and_two_pow_sub_one_eq_mod] at h
  exact h
theorem q_mask (a s : Nat) : nI a &&& nI (2 ^ s - 1) = nI (a % 2 ^ s) := by
  rw [q_and, Nat.and_two_pow_sub_one_eq_mod]
theorem q_sub {a b : Nat} (h : b ≤ a) : nI a - nI b = nI (a - b) := by
  obtain ⟨c, rfl⟩ : ∃ c, a = c + b := ⟨a - b, by omega⟩
  rw [← nI_add, Int32.add_sub_cancel, Nat.add_sub_cancel]
theorem q_mul (a b : Nat) : nI a * nI b = nI (a * b) := by
  apply Int32.toBitVec_inj.1
  show BitVec.ofNat 32 a * BitVec.ofNat 32 b = BitVec.ofNat 32 (a * b)
  rw [BitVec.ofNat_mul]
theorem q_m1 (a : Nat) : nI (a + 1) + (-1) = nI a := by
  have : nI (a + 1) - 1 = nI a := nI_pred a
  rw [← this, Int32.sub_eq_add_neg]
theorem q_lit (n : Nat) : (OfNat.ofNat n : Int32) = nI n := rfl
theorem q_cl {a : Nat} (h : a < 2 ^ 31) : (nI a).toNatClampNeg = a := nI_clamp h
theorem q_neg {a : Nat} (h : a < 2 ^ 31) : ¬ nI a = -1 := by
  intro e
  have h1 := congrArg Int32.toInt e
  rw [nI_toInt h] at h1
  have h2 : (-1 : Int32).toInt = -1 := by decide
  omega
/-! Codes. -/
def shN (l : Nat) : Nat := 4 + 3 * (8 - l)
def bsN (l : Nat) : Nat := 2 ^ shN l
def cdN (a l : Nat) : Nat := a * bsN l + l
def VN (k : Nat) : Prop := ∃ a l, l ≤ 8 ∧ a < 8 ^ l ∧ k = cdN a l
def lnN (k : Nat) : Nat := k % 16
def tpN (p : Nat) : Nat := (p / bsN (lnN p) + 1) * bsN (lnN p)
def bgN (p k : Nat) : Prop := p ≤ k ∧ k < tpN p
def ctN (k l : Nat) : Nat := k / bsN l * bsN l + l
theorem bs_0 : bsN 0 = 268435456 := rfl
theorem bs_1 : bsN 1 = 33554432 := rfl
theorem bs_2 : bsN 2 = 4194304 := rfl
theorem bs_3 : bsN 3 = 524288 := rfl
theorem bs_4 : bsN 4 = 65536 := rfl
theorem bs_5 : bsN 5 = 8192 := rfl
theorem bs_6 : bsN 6 = 1024 := rfl
theorem bs_7 : bsN 7 = 128 := rfl
theorem bs_8 : bsN 8 = 16 := rfl
theorem l8 {l : Nat} (h : l ≤ 8) {P : Nat → Prop} (h0 : P 0) (h1 : P 1) (h2 : P 2) (h3 : P 3) (h4 : P 4) (h5 : P 5) (h6 : P 6) (h7 : P 7) (h8 : P 8) : P l := by
  match l, h with
  | 0, _ => exact h0
  | 1, _ => exact h1
  | 2, _ => exact h2
  | 3, _ => exact h3
  | 4, _ => exact h4
  | 5, _ => exact h5
  | 6, _ => exact h6
  | 7, _ => exact h7
  | 8, _ => exact h8
  | n + 9, h => omega
theorem sh_lt (l : Nat) : shN l < 32 := by unfold shN; omega
theorem bs_pos (l : Nat) : 0 < bsN l := Nat.pow_pos (by decide)
theorem bs_16 {l : Nat} (h : l ≤ 8) : ∃ c, bsN l = 16 * c ∧ 0 < c := l8 h (P := fun l => ∃ c, bsN l = 16 * c ∧ 0 < c) ⟨16777216, rfl, by decide⟩ ⟨2097152, rfl, by decide⟩ ⟨262144, rfl, by decide⟩ ⟨32768, rfl, by decide⟩ ⟨4096, rfl, by decide⟩ ⟨512, rfl, by decide⟩ ⟨64, rfl, by decide⟩ ⟨8, rfl, by decide⟩ ⟨1, rfl, by decide⟩
theorem bs_8l {l : Nat} (h : l ≤ 8) : 8 ^ l * bsN l = 268435456 := l8 h (P := fun l => 8 ^ l * bsN l = 268435456) rfl rfl rfl rfl rfl rfl rfl rfl rfl
theorem bs_add {l d : Nat} (h : l + d ≤ 8) : bsN l = bsN (l + d) * 8 ^ d := by
  unfold bsN shN
  rw [show (8 : Nat) ^ d = 2 ^ (3 * d) by rw [Nat.pow_mul], ← Nat.pow_add]
  congr 1
  omega
theorem cd_len {a l : Nat} (h : l ≤ 8) : cdN a l % 16 = l := by
  obtain ⟨c, hc, -⟩ := bs_16 h
  unfold cdN
  rw [hc, show a * (16 * c) + l = l + 16 * (a * c) by rw [Nat.mul_left_comm, Nat.add_comm], Nat.add_mul_mod_self_left]
  omega
theorem lt_bs {l : Nat} (h : l ≤ 8) : l < bsN l := by
  obtain ⟨c, hc, h0⟩ := bs_16 h
  omega
theorem cd_div {a l : Nat} (h : l ≤ 8) : cdN a l / bsN l = a := by
  unfold cdN
  rw [Nat.add_comm, Nat.add_mul_div_right _ _ (bs_pos l), Nat.div_eq_of_lt (lt_bs h), Nat.zero_add]
theorem cd_lt {a l : Nat} (h : l ≤ 8) (ha : a < 8 ^ l) : cdN a l < 268435456 := by
  have h1 := lt_bs h
  have h2 := bs_8l h
  have h3 : (a + 1) * bsN l ≤ 8 ^ l * bsN l := Nat.mul_le_mul_right _ ha
  rw [Nat.add_mul, Nat.one_mul] at h3
  unfold cdN
  omega
theorem VN.len {k : Nat} (h : VN k) : lnN k ≤ 8 := by
  obtain ⟨a, l, hl, ha, rfl⟩ := h
  unfold lnN
  rw [cd_len hl]
  exact hl
theorem VN.lt {k : Nat} (h : VN k) : k < 268435456 := by
  obtain ⟨a, l, hl, ha, rfl⟩ := h
  exact cd_lt hl ha
theorem VN.eq {k : Nat} (h : VN k) : k = k / bsN (lnN k) * bsN (lnN k) + lnN k := by
  obtain ⟨a, l, hl, ha, rfl⟩ := h
  unfold lnN
  rw [cd_len hl, cd_div hl]
  rfl
theorem VN.dlt {k : Nat} (h : VN k) : k / bsN (lnN k) < 8 ^ lnN k := by
  obtain ⟨a, l, hl, ha, rfl⟩ := h
  unfold lnN
  rw [cd_len hl, cd_div hl]
  exact ha
theorem ct_VN {k l : Nat} (hk : k < 268435456) (hl : l ≤ 8) : VN (ctN k l) := ⟨k / bsN l, l, hl, by
  rw [Nat.div_lt_iff_lt_mul (bs_pos l), bs_8l hl]
  exact hk, rfl⟩
theorem ct_len {k l : Nat} (hl : l ≤ 8) : lnN (ctN k l) = l := cd_len hl
theorem ct_div {k l : Nat} (hl : l ≤ 8) : ctN k l / bsN l = k / bsN l := cd_div hl
theorem VN0 : VN 0 := ⟨0, 0, by decide, by decide, rfl⟩
theorem lt_tp (p : Nat) : p < tpN p := by
  unfold tpN
  rw [Nat.add_mul, Nat.one_mul]
  have := Nat.div_add_mod p (bsN (lnN p))
  have h1 := Nat.mod_lt p (bs_pos (lnN p))
  rw [Nat.mul_comm] at this
  omega
theorem bg_rfl (p : Nat) : bgN p p := ⟨Nat.le_refl _, lt_tp p⟩
/-- what begins: the same high letters, and no longer -/
theorem bg_iff {p k : Nat} (hp : VN p) (hk : VN k) : bgN p k ↔ lnN p ≤ lnN k ∧ p / bsN (lnN p) = k / bsN (lnN p) := by
  have e := hp.eq
  have hl := hp.len
  obtain ⟨c, hc, h0⟩ := bs_16 hl
  have hb := lt_bs hl
  have dk := Nat.div_add_mod k (bsN (lnN p))
  have mk := Nat.mod_lt k (bs_pos (lnN p))
  rw [Nat.mul_comm] at dk
  unfold bgN tpN
  rw [Nat.add_mul, Nat.one_mul]
  generalize hB : bsN (lnN p) = B at *
  generalize hq : p / B = q at *
  generalize hr : k / B = r at *
  have m16 : lnN k ≤ k % B := by
    unfold lnN
    have : k % B % 16 = k % 16 := by rw [hc]; exact Nat.mod_mul_right_mod k 16 c
    rw [← this]
    exact Nat.mod_le _ _
  constructor
  · intro ⟨h1, h2⟩
    have hqr : q = r := by
      rcases Nat.lt_trichotomy q r with h | h | h
      · have := Nat.mul_le_mul_right B (show q + 1 ≤ r from h)
        rw [Nat.add_mul, Nat.one_mul] at this
        omega
      · exact h
      · have := Nat.mul_le_mul_right B (show r + 1 ≤ q from h)
        rw [Nat.add_mul, Nat.one_mul] at this
        omega
    refine ⟨?_, hqr⟩
    rcases Nat.lt_or_ge (lnN k) (lnN p) with h | h
    · exfalso
      have ek := hk.eq
      have hd : bsN (lnN k) = B * 8 ^ (lnN p - lnN k) := by
        have := bs_add (l := lnN k) (d := lnN p - lnN k) (by omega)
        rw [show lnN k + (lnN p - lnN k) = lnN p by omega, hB] at this
        exact this
      have e2 : k = lnN k + B * (k / bsN (lnN k) * 8 ^ (lnN p - lnN k)) := by
        rw [Nat.mul_left_comm, ← hd, Nat.add_comm]
        exact ek
      have : k % B = lnN k := (congrArg (· % B) e2).trans (by
        show (lnN k + B * _) % B = _
        rw [Nat.add_mul_mod_self_left]
        exact Nat.mod_eq_of_lt (by omega))
      subst hqr
      omega
    · exact h
  · intro ⟨h1, h2⟩
    subst h2
    omega
theorem bg_len {p k : Nat} (hp : VN p) (hk : VN k) (h : bgN p k) : lnN p ≤ lnN k := ((bg_iff hp hk).mp h).1
theorem V_ext {p k : Nat} (hp : VN p) (hk : VN k) (h : lnN p = lnN k) (hd : p / bsN (lnN p) = k / bsN (lnN p)) : p = k := by
  rw [hp.eq, hd, h]
  exact hk.eq.symm
theorem bg_eq {p k : Nat} (hp : VN p) (hk : VN k) (h : bgN p k) (hl : lnN k ≤ lnN p) : p = k := by
  obtain ⟨h1, h2⟩ := (bg_iff hp hk).mp h
  exact V_ext hp hk (Nat.le_antisymm h1 hl) h2
theorem bg_lt {p k : Nat} (hp : VN p) (hk : VN k) (h : bgN p k) (hn : p < k) : lnN p < lnN k := by
  rcases Nat.lt_or_ge (lnN p) (lnN k) with h1 | h1
  · exact h1
  · have := bg_eq hp hk h h1
    omega
/-- deeper letters are fewer: the quotient at a shorter length -/
theorem div_sh {k l d : Nat} (h : l + d ≤ 8) : k / bsN l = k / bsN (l + d) / 8 ^ d := by rw [Nat.div_div_eq_div_mul, ← bs_add h]
theorem bg_trans {p q k : Nat} (hp : VN p) (hq : VN q) (hk : VN k) (h1 : bgN p q) (h2 : bgN q k) : bgN p k := by
  rw [bg_iff hp hq] at h1
  rw [bg_iff hq hk] at h2
  rw [bg_iff hp hk]
  refine ⟨by omega, h1.2.trans ?_⟩
  have hl := hq.len
  have e := div_sh (k := q) (l := lnN p) (d := lnN q - lnN p) (by omega)
  have e2 := div_sh (k := k) (l := lnN p) (d := lnN q - lnN p) (by omega)
  rw [show lnN p + (lnN q - lnN p) = lnN q by omega] at e e2
  rw [e, e2, h2.2]
/-- two that begin the same are one below the other -/
theorem bg_chain {p q k : Nat} (hp : VN p) (hq : VN q) (hk : VN k) (h1 : bgN p k) (h2 : bgN q k) (hpq : p ≤ q) : bgN p q := ⟨hpq, Nat.lt_of_le_of_lt h2.1 h1.2⟩
/-- what lies between is of the block -/
theorem bg_mid {p x k : Nat} (h : bgN p k) (h1 : p ≤ x) (h2 : x ≤ k) : bgN p x := ⟨h1, Nat.lt_of_le_of_lt h2 h.2⟩
theorem tp_le {p q : Nat} (hp : VN p) (hq : VN q) (h : bgN p q) : tpN q ≤ tpN p := by
  have hl := hq.len
  rw [bg_iff hp hq] at h
  unfold tpN
  have e := div_sh (k := q) (l := lnN p) (d := lnN q - lnN p) (by omega)
  have b := bs_add (l := lnN p) (d := lnN q - lnN p) (by omega)
  rw [show lnN p + (lnN q - lnN p) = lnN q by omega] at e b
  rw [h.2, e, b]
  generalize q / bsN (lnN q) = t
  generalize bsN (lnN q) = B
  generalize hE : 8 ^ (lnN q - lnN p) = E
  have hE0 : 0 < E := by rw [← hE]; exact Nat.pow_pos (by decide)
  have : t < (t / E + 1) * E := by
    rw [Nat.add_mul, Nat.one_mul]
    have h1 := Nat.div_add_mod t E
    have h2 := Nat.mod_lt t hE0
    rw [Nat.mul_comm] at h1
    omega
  have := Nat.mul_le_mul_right B (show t + 1 ≤ (t / E + 1) * E from this)
  rw [show (t / E + 1) * (B * E) = (t / E + 1) * E * B by rw [Nat.mul_assoc, Nat.mul_comm B E]]
  exact this
theorem ct_bg {k l : Nat} (hk : VN k) (hl : l ≤ lnN k) : bgN (ctN k l) k := by
  have h8 := hk.len
  rw [bg_iff (ct_VN hk.lt (by omega)) hk, ct_len (by omega), ct_div (by omega)]
  exact ⟨hl, rfl⟩
theorem ct_self {k : Nat} (hk : VN k) : ctN k (lnN k) = k := hk.eq.symm
theorem bg_ct {p k : Nat} (hp : VN p) (hk : VN k) : bgN p k ↔ lnN p ≤ lnN k ∧ p = ctN k (lnN p) := by
  rw [bg_iff hp hk]
  constructor
  · intro ⟨h1, h2⟩
    exact ⟨h1, by unfold ctN; rw [← h2]; exact hp.eq⟩
  · intro ⟨h1, h2⟩
    refine ⟨h1, ?_⟩
    have h8 := hp.len
    have : p / bsN (lnN p) = ctN k (lnN p) / bsN (lnN p) := congrArg (· / bsN (lnN p)) h2
    rw [this, ct_div h8]
theorem ct_0 {k : Nat} (hk : VN k) : ctN k 0 = 0 := by
  have := hk.lt
  unfold ctN
  rw [bs_0, Nat.div_eq_of_lt this]
theorem ct_mono {k i j : Nat} (hk : VN k) (hij : i ≤ j) (hj : j ≤ lnN k) : bgN (ctN k i) (ctN k j) := by
  have h8 := hk.len
  have hi := ct_VN (l := i) hk.lt (by omega)
  have hj' := ct_VN (l := j) hk.lt (by omega)
  have h1 := ct_bg (l := i) hk (by omega)
  have h2 := ct_bg (l := j) hk (by omega)
  rcases Nat.le_total (ctN k i) (ctN k j) with h | h
  · exact bg_chain hi hj' hk h1 h2 h
  · have h3 := bg_chain hj' hi hk h2 h1 h
    have h4 := bg_eq hj' hi h3 (by rw [ct_len (by omega), ct_len (by omega)]; exact hij)
    rw [h4]
    exact bg_rfl _
