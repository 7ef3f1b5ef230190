/-! How both sides read a command. -/
abbrev St6 : Type := Int32 × Int32 × Int32 × Int32 × Int32 × Int32
def rdS (s : St6) (c : Int32) : Option (Int32 × St6) := mX0_read s.1 s.2.1 s.2.2.1 s.2.2.2.1 s.2.2.2.2.1 s.2.2.2.2.2 c
/-- so many signs are accepted, and the command goes on behind each -/
def Acc (t : Nat → Nat) : Nat → Nat → St6 → St6 → Prop
  | 0, _, s, s' => s = s'
  | d + 1, p, s, s' => ∃ r s1, rdS s (nI (t p)) = some (r, s1) ∧ r ≠ 0 ∧ s1.1 = 1 ∧ Acc t d (p + 1) s1 s'
theorem Acc.trans {t : Nat → Nat} : ∀ {d e p : Nat} {s s1 s2 : St6}, Acc t d p s s1 → Acc t e (p + d) s1 s2 → Acc t (d + e) p s s2
  | 0, e, p, s, s1, s2, h1, h2 => by
    have : s = s1 := h1
    subst this
    rw [Nat.zero_add]
    exact h2
  | d + 1, e, p, s, s1, s2, h1, h2 => by
    obtain ⟨r, s3, a1, a2, a3, a4⟩ := h1
    rw [show d + 1 + e = (d + e) + 1 by omega]
    exact ⟨r, s3, a1, a2, a3, Acc.trans a4 (by rw [show p + 1 + d = p + (d + 1) by omega]; exact h2)⟩
theorem q_ltn {a : Nat} (b : Nat) (ha : a < 2 ^ 31) (hb : b < 2 ^ 31) : ((nI a < (OfNat.ofNat b : Int32)) ↔ a < b) := nI_ltI ha hb
theorem q_gtn {a : Nat} (b : Nat) (ha : a < 2 ^ 31) (hb : b < 2 ^ 31) : (((OfNat.ofNat b : Int32) < nI a) ↔ b < a) := nI_ltI hb ha
theorem q_len {a : Nat} (b : Nat) (ha : a < 2 ^ 31) (hb : b < 2 ^ 31) : ((nI a ≤ (OfNat.ofNat b : Int32)) ↔ a ≤ b) := nI_leI ha hb
theorem q_gen {a : Nat} (b : Nat) (ha : a < 2 ^ 31) (hb : b < 2 ^ 31) : (((OfNat.ofNat b : Int32) ≤ nI a) ↔ b ≤ a) := nI_leI hb ha
theorem q_eqn {a : Nat} (b : Nat) (ha : a < 2 ^ 31) (hb : b < 2 ^ 31) : ((nI a = (OfNat.ofNat b : Int32)) ↔ a = b) := nI_eq ha hb
theorem q_subn {a : Nat} (b : Nat) (h : b ≤ a) : nI a - (OfNat.ofNat b : Int32) = nI (a - b) := q_sub h
/-- one more letter -/
theorem rd_letter {K le nu : Int32} {L a c : Nat} (hK : mX0_hasName K = 1) (hL : L < 8) (hc : 97 ≤ c) (hc2 : c ≤ 104) (hle : le = nI a) : rdS (1, K, le, nI L, nu, 0) (nI c) = some (1, 1, K, nI (8 * a + (c - 97)), nI (L + 1), nu, 0) := by
  unfold rdS mX0_read
  dsimp only
  rw [if_neg (by decide), if_neg (by rw [q_eqn 59 (by omega) (by omega)]; omega), if_neg (by rw [q_ltn 97 (by omega) (by omega)]; omega), if_neg (by rw [q_gtn 104 (by omega) (by omega)]; omega)]
  unfold mX0_readLetter
  rw [if_neg (by rw [hK]; decide), if_neg (by decide), if_neg (by rw [q_eqn 8 (by omega) (by omega)]; omega), hle, q_subn 97 hc, nI_1]
  have : nI a * 8 = nI (8 * a) := by
    rw [Nat.mul_comm]
    exact q_mul a 8
  simp only [Option.bind_some]
  rw [this, nI_add]
/-- one more digit -/
theorem rd_digit {K le LEN : Int32} {g D u c : Nat} (hm : mX0_mostDigits K LEN = nI D) (hD : D ≤ 2) (hg : g < D) (hc : 48 ≤ c) (hc2 : c ≤ 57) : rdS (1, K, le, LEN, nI u, nI g) (nI c) = some (1, 1, K, le, LEN, nI (10 * u + (c - 48)), nI (g + 1)) := by
  unfold rdS mX0_read
  dsimp only
  rw [if_neg (by decide), if_neg (by rw [q_eqn 59 (by omega) (by omega)]; omega), if_pos (by rw [q_ltn 97 (by omega) (by omega)]; omega), if_neg (by rw [q_ltn 48 (by omega) (by omega)]; omega), if_neg (by rw [q_gtn 57 (by omega) (by omega)]; omega)]
  unfold mX0_readDigit
  rw [hm, if_neg (by rw [nI_eq (by omega) (by omega)]; omega), q_subn 48 hc, nI_1]
  have : nI u * 10 = nI (10 * u) := by
    rw [Nat.mul_comm]
    exact q_mul u 10
  simp only [Option.bind_some]
  rw [this, nI_add]
  rfl
/-- what no letter and no digit can be: a semicolon or a fault -/
theorem rd_end {K le LEN nu di : Int32} {c : Nat} (hc : c ≤ 127) (h1 : mX0_hasName K = 0 ∨ 0 < di ∨ LEN = 8 ∨ ¬ (97 ≤ c ∧ c ≤ 104)) (h2 : di = mX0_mostDigits K LEN ∨ ¬ (48 ≤ c ∧ c ≤ 57)) :
    (c = 59 → mX0_isWhole K LEN di = 1 → rdS (1, K, le, LEN, nu, di) (nI c) = some (1, 0, K, le, LEN, nu, di)) ∧ ((c ≠ 59 ∨ mX0_isWhole K LEN di = 0) → ∃ st, rdS (1, K, le, LEN, nu, di) (nI c) = some (0, st)) := by
  have e59 : nI c = 59 ↔ c = 59 := q_eqn 59 (by omega) (by omega)
  have e97 : nI c < 97 ↔ c < 97 := q_ltn 97 (by omega) (by omega)
  have e104 : 104 < nI c ↔ 104 < c := q_gtn 104 (by omega) (by omega)
  have e48 : nI c < 48 ↔ c < 48 := q_ltn 48 (by omega) (by omega)
  have e57 : 57 < nI c ↔ 57 < c := q_gtn 57 (by omega) (by omega)
  unfold rdS mX0_read
  dsimp only
  rw [if_neg (show ¬ (1 : Int32) = 0 by decide)]
  constructor
  · intro h3 h4
    rw [if_pos (e59.mpr h3), h4]
    rfl
  · intro h3
    by_cases h4 : c = 59
    · rw [if_pos (e59.mpr h4)]
      rcases h3 with h3 | h3
      · exact absurd h4 h3
      · rw [h3]
        exact ⟨_, rfl⟩
    · rw [if_neg (fun e => h4 (e59.mp e))]
      by_cases h5 : c < 97
      · rw [if_pos (e97.mpr h5)]
        by_cases h6 : c < 48
        · rw [if_pos (e48.mpr h6)]
          exact ⟨_, rfl⟩
        · rw [if_neg (fun e => h6 (e48.mp e))]
          by_cases h7 : 57 < c
          · rw [if_pos (e57.mpr h7)]
            exact ⟨_, rfl⟩
          · rw [if_neg (fun e => h7 (e57.mp e))]
            unfold mX0_readDigit
            rcases h2 with h2 | h2
            · rw [if_pos h2]
              exact ⟨_, rfl⟩
            · exact absurd ⟨by omega, by omega⟩ h2
      · rw [if_neg (fun e => h5 (e97.mp e))]
        by_cases h6 : 104 < c
        · rw [if_pos (e104.mpr h6), if_neg (fun e => by have := e48.mp e; omega), if_pos (e57.mpr (by omega))]
          exact ⟨_, rfl⟩
        · rw [if_neg (fun e => h6 (e104.mp e))]
          unfold mX0_readLetter
          rcases h1 with h1 | h1 | h1 | h1
          · rw [if_pos h1]
            exact ⟨_, rfl⟩
          · split <;> exact ⟨_, rfl⟩
          · split
            · exact ⟨_, rfl⟩
            · split <;> exact ⟨_, rfl⟩
          · exact absurd ⟨by omega, by omega⟩ h1
section Reads
variable {T : Nat} {tx : Nat → Int32} {t : Nat → Nat}
theorem next_c (hT : T ≤ 120) (ht : ∀ i, i < T → tx i = nI (t i)) {p : Nat} (hp : p ≤ T) : (p < T → mX8_next (nI T) (nI p) tx = some (nI (t p))) ∧ (p = T → mX8_next (nI T) (nI p) tx = some (-1)) := by
  unfold mX8_next
  constructor
  · intro h
    rw [if_neg (nI_ge h (by omega)), rd_nI tx (by omega) (by omega), ht p h]
    rfl
  · intro h
    rw [if_pos (nI_le (by omega) (by omega))]
theorem within_c {c lo hi : Nat} (hc : c ≤ 127) (hlo : lo < 2 ^ 31) (hhi : hi < 2 ^ 31) : mX8_within (nI c) (OfNat.ofNat lo) (OfNat.ofNat hi) = if lo ≤ c ∧ c ≤ hi then 1 else 0 := by
  unfold mX8_within
  by_cases h1 : c < lo
  · rw [if_pos ((q_ltn lo (by omega) hlo).mpr h1), if_neg (by omega)]
  · rw [if_neg (fun e => h1 ((q_ltn lo (by omega) hlo).mp e))]
    by_cases h2 : hi < c
    · rw [if_pos ((q_gtn hi (by omega) hhi).mpr h2), if_neg (by omega)]
    · rw [if_neg (fun e => h2 ((q_gtn hi (by omega) hhi).mp e)), if_pos (by omega)]
/-- the letters of a name -/
theorem name_p (hT : T ≤ 120) (ht : ∀ i, i < T → tx i = nI (t i)) (h127 : ∀ i, i < T → t i ≤ 127) {K nu : Int32} (hK : mX0_hasName K = 1) : ∀ (d L q a m : Nat), L + d = 8 → q ≤ T → a < 8 ^ L → d < m →
    ∃ e a', e ≤ d ∧ q + e ≤ T ∧ a' < 8 ^ (L + e) ∧ mX8_readsName_L10 (nI T) tx m (nI q) (nI a) (nI L) = some (nI (q + e), nI a', nI (L + e)) ∧ Acc t e q (1, K, nI a, nI L, nu, 0) (1, K, nI a', nI (L + e), nu, 0) ∧ (L + e = 8 ∨ ∀ h : q + e < T, ¬ (97 ≤ t (q + e) ∧ t (q + e) ≤ 104)) := by
  intro d
  induction d with
  | zero =>
    intro L q a m h1 h2 h3 h4
    obtain ⟨m, rfl⟩ : ∃ z, m = z + 1 := ⟨m - 1, by omega⟩
    have : L = 8 := by omega
    subst this
    refine ⟨0, a, Nat.le_refl _, h2, h3, ?_, rfl, Or.inl rfl⟩
    rw [mX8_readsName_L10, if_pos (show (8 : Int32) ≤ nI 8 by decide +kernel)]
    rfl
  | succ d ih =>
    intro L q a m h1 h2 h3 h4
    obtain ⟨m, rfl⟩ : ∃ z, m = z + 1 := ⟨m - 1, by omega⟩
    rw [mX8_readsName_L10, if_neg (fun e => by have := (q_gen 8 (by omega) (by omega)).mp e; omega)]
    rcases Nat.lt_or_ge q T with h5 | h5
    · have hc := h127 q h5
      rw [(next_c hT ht h2).1 h5, Option.bind_some, within_c hc (lo := 97) (hi := 104) (by omega) (by omega)]
      by_cases h6 : 97 ≤ t q ∧ t q ≤ 104
      · rw [if_pos h6, if_neg (by decide), Option.bind_some, nI_1, nI_1]
        have hpw : 8 ^ (L + 1) = 8 * 8 ^ L := by rw [Nat.pow_succ, Nat.mul_comm]
        obtain ⟨e, a', e1, e2, e3, e4, e5, e6⟩ := ih (L + 1) (q + 1) (8 * a + (t q - 97)) m (by omega) (by omega) (by omega) (by omega)
        refine ⟨e + 1, a', by omega, by omega, by rw [show L + (e + 1) = L + 1 + e by omega]; exact e3, ?_, ?_, ?_⟩
        · have : (8 : Int32) * nI a + nI (t q) - 97 = nI (8 * a + (t q - 97)) := by
            rw [show (8 : Int32) * nI a = nI (8 * a) from q_mul 8 a, nI_add, q_subn 97 (by omega)]
            congr 1
            omega
          rw [this, e4, show q + 1 + e = q + (e + 1) by omega, show L + 1 + e = L + (e + 1) by omega]
        · refine ⟨1, _, rd_letter hK (by omega) h6.1 h6.2 rfl, by decide, rfl, ?_⟩
          rw [show L + (e + 1) = L + 1 + e by omega]
          exact e5
        · rw [show q + (e + 1) = q + 1 + e by omega, show L + (e + 1) = L + 1 + e by omega]
          exact e6
      · rw [if_neg h6, if_pos rfl]
        exact ⟨0, a, by omega, h2, h3, rfl, rfl, Or.inr (fun _ => h6)⟩
    · have : q = T := by omega
      rw [(next_c hT ht h2).2 this, Option.bind_some, show mX8_within (-1) 97 104 = 0 by decide, if_pos rfl]
      exact ⟨0, a, by omega, h2, h3, rfl, rfl, Or.inr (fun h => by omega)⟩
/-- the digits of a number -/
theorem digit_p (hT : T ≤ 120) (ht : ∀ i, i < T → tx i = nI (t i)) (h127 : ∀ i, i < T → t i ≤ 127) {K le LEN : Int32} {D : Nat} (hD : D ≤ 2) (hm : mX0_mostDigits K LEN = nI D) : ∀ (d g q u m : Nat), g + d = D → q ≤ T → u < 10 ^ g → d < m →
    ∃ e u', e ≤ d ∧ q + e ≤ T ∧ u' < 10 ^ (g + e) ∧ mX8_readsDigits_L7 (nI D) (nI T) tx m (nI g) (nI q) (nI u) = some (nI (g + e), nI (q + e), nI u') ∧ Acc t e q (1, K, le, LEN, nI u, nI g) (1, K, le, LEN, nI u', nI (g + e)) ∧ (g + e = D ∨ ∀ h : q + e < T, ¬ (48 ≤ t (q + e) ∧ t (q + e) ≤ 57)) := by
  intro d
  induction d with
  | zero =>
    intro g q u m h1 h2 h3 h4
    obtain ⟨m, rfl⟩ : ∃ z, m = z + 1 := ⟨m - 1, by omega⟩
    refine ⟨0, u, Nat.le_refl _, h2, h3, ?_, rfl, Or.inl (by omega)⟩
    rw [mX8_readsDigits_L7, if_pos (nI_le (by omega) (by omega))]
    rfl
  | succ d ih =>
    intro g q u m h1 h2 h3 h4
    obtain ⟨m, rfl⟩ : ∃ z, m = z + 1 := ⟨m - 1, by omega⟩
    rw [mX8_readsDigits_L7, if_neg (nI_ge (by omega) (by omega))]
    rcases Nat.lt_or_ge q T with h5 | h5
    · have hc := h127 q h5
      rw [(next_c hT ht h2).1 h5, Option.bind_some, within_c hc (lo := 48) (hi := 57) (by omega) (by omega)]
      by_cases h6 : 48 ≤ t q ∧ t q ≤ 57
      · rw [if_pos h6, if_neg (by decide), Option.bind_some, nI_1, nI_1]
        have hpw : 10 ^ (g + 1) = 10 * 10 ^ g := by rw [Nat.pow_succ, Nat.mul_comm]
        obtain ⟨e, u', e1, e2, e3, e4, e5, e6⟩ := ih (g + 1) (q + 1) (10 * u + (t q - 48)) m (by omega) (by omega) (by omega) (by omega)
        refine ⟨e + 1, u', by omega, by omega, by rw [show g + (e + 1) = g + 1 + e by omega]; exact e3, ?_, ?_, ?_⟩
        · have : (10 : Int32) * nI u + nI (t q) - 48 = nI (10 * u + (t q - 48)) := by
            rw [show (10 : Int32) * nI u = nI (10 * u) from q_mul 10 u, nI_add, q_subn 48 (by omega)]
            congr 1
            omega
          rw [this, e4, show q + 1 + e = q + (e + 1) by omega, show g + 1 + e = g + (e + 1) by omega]
        · refine ⟨1, _, rd_digit hm hD (by omega) h6.1 h6.2, by decide, rfl, ?_⟩
          rw [show g + (e + 1) = g + 1 + e by omega]
          exact e5
        · rw [show q + (e + 1) = q + 1 + e by omega, show g + (e + 1) = g + 1 + e by omega]
          exact e6
      · rw [if_neg h6, if_pos rfl]
        exact ⟨0, u, by omega, h2, h3, rfl, rfl, Or.inr (fun _ => h6)⟩
    · have : q = T := by omega
      rw [(next_c hT ht h2).2 this, Option.bind_some, show mX8_within (-1) 48 57 = 0 by decide, if_pos rfl]
      exact ⟨0, u, by omega, h2, h3, rfl, rfl, Or.inr (fun h => by omega)⟩
end Reads
/-- a command that is right, from a place to another, as both sides read it -/
def Okc (T : Nat) (tx : Nat → Int32) (t : Nat → Nat) (p q : Nat) (K le LEN nu : Int32) : Prop :=
  (∀ rl rn n0, ∃ rl' rn' nu', mX8_readsCommand (nI T) (nI p) rl rn n0 tx = some (1, nI q, K, rl', rn', nu') ∧ (mX0_hasName K = 1 → rl' = le ∧ rn' = LEN) ∧ (K = 43 ∨ K = 61 → nu' = nu)) ∧
  ∀ s : St6, s.1 = 0 → ∃ d s' di, q = p + d + 1 ∧ Acc t d p s s' ∧ rdS s' (nI (t (p + d))) = some (1, 0, K, le, LEN, nu, di)
/-- a fault at a place -/
def Fac (T : Nat) (tx : Nat → Int32) (t : Nat → Nat) (p q : Nat) : Prop :=
  (∀ rl rn n0, ∃ K rl' rn' nu', mX8_readsCommand (nI T) (nI p) rl rn n0 tx = some (0, nI q, K, rl', rn', nu')) ∧
  ∀ s : St6, s.1 = 0 → ∃ d s', q = p + d ∧ Acc t d p s s' ∧ (q < T → ∃ st, rdS s' (nI (t q)) = some (0, st)) ∧ (q = T → s'.1 = 1)
/-- what a right command says -/
def Cmd (K le LEN nu : Int32) : Prop :=
  (K = 43 ∧ (∃ a l : Nat, 1 ≤ l ∧ l ≤ 8 ∧ a < 8 ^ l ∧ le = nI a ∧ LEN = nI l) ∧ ∃ w : Nat, w ≤ 99 ∧ nu = nI w) ∨ ((K = 45 ∨ K = 60 ∨ K = 62) ∧ ∃ a l : Nat, 1 ≤ l ∧ l ≤ 8 ∧ a < 8 ^ l ∧ le = nI a ∧ LEN = nI l) ∨ K = 61 ∨ K = 42
section Reads2
variable {T : Nat} {tx : Nat → Int32} {t : Nat → Nat}
theorem begin_c (s : St6) (hs : s.1 = 0) (K : Int32) (hK : mX0_hasName K = 1 ∨ K = 61 ∨ K = 42) : rdS s K = some (1, 1, K, 0, 0, 0, 0) := by
  unfold rdS mX0_read mX0_begin
  rw [if_pos hs]
  rcases hK with hK | hK | hK
  · rw [hK]; rfl
  · subst hK; rfl
  · subst hK; rfl
theorem begin_no (s : St6) (hs : s.1 = 0) (K : Int32) (h1 : mX0_hasName K = 0) (h2 : K ≠ 61) (h3 : K ≠ 42) : ∃ st, rdS s K = some (0, st) := by
  unfold rdS mX0_read mX0_begin
  rw [if_pos hs, h1, if_neg h2, if_neg h3]
  exact ⟨_, rfl⟩
/-- the end of a command -/
theorem end_p (hT : T ≤ 120) (ht : ∀ i, i < T → tx i = nI (t i)) (h127 : ∀ i, i < T → t i ≤ 127) {p q d : Nat} {K le LEN nu di : Int32} (hq : q = p + d) (hqT : q ≤ T)
    (hw : mX0_isWhole K LEN di = 1) (h1 : mX0_hasName K = 0 ∨ 0 < di ∨ LEN = 8 ∨ ∀ _h : q < T, ¬ (97 ≤ t q ∧ t q ≤ 104)) (h2 : di = mX0_mostDigits K LEN ∨ ∀ _h : q < T, ¬ (48 ≤ t q ∧ t q ≤ 57))
    (hA : ∀ s : St6, s.1 = 0 → Acc t d p s (1, K, le, LEN, nu, di))
    (hR : ∀ rl rn n0, ∃ rl' rn' nu', mX8_readsCommand (nI T) (nI p) rl rn n0 tx = mX8_readsCommand_J135 1 (nI q) K rl' rn' nu' (nI T) tx ∧ (mX0_hasName K = 1 → rl' = le ∧ rn' = LEN) ∧ (K = 43 ∨ K = 61 → nu' = nu)) :
    (q < T ∧ Okc T tx t p (q + 1) K le LEN nu) ∨ Fac T tx t p q := by
  rcases Nat.lt_or_ge q T with h3 | h3
  · have hc := h127 q h3
    obtain ⟨r1, r2⟩ := rd_end (K := K) (le := le) (LEN := LEN) (nu := nu) (di := di) hc (h1.elim Or.inl (fun h => Or.inr (h.elim Or.inl (fun h => Or.inr (h.elim Or.inl (fun h => Or.inr (h h3))))))) (h2.elim Or.inl (fun h => Or.inr (h h3)))
    by_cases h4 : t q = 59
    · left
      refine ⟨h3, fun rl rn n0 => ?_, fun s hs => ?_⟩
      · obtain ⟨rl', rn', nu', e1, e2, e3⟩ := hR rl rn n0
        refine ⟨rl', rn', nu', ?_, e2, e3⟩
        rw [e1]
        unfold mX8_readsCommand_J135
        rw [if_neg (by decide), (next_c hT ht hqT).1 h3, Option.bind_some, if_pos ((q_eqn 59 (by omega) (by omega)).mpr h4), nI_1]
      · exact ⟨d, _, di, by omega, hA s hs, by rw [← hq]; exact r1 h4 hw⟩
    · right
      refine ⟨fun rl rn n0 => ?_, fun s hs => ⟨d, _, hq, hA s hs, fun _ => r2 (Or.inl h4), fun _ => rfl⟩⟩
      obtain ⟨rl', rn', nu', e1, e2, e3⟩ := hR rl rn n0
      refine ⟨K, rl', rn', nu', ?_⟩
      rw [e1]
      unfold mX8_readsCommand_J135
      rw [if_neg (by decide), (next_c hT ht hqT).1 h3, Option.bind_some, if_neg (fun e => h4 ((q_eqn 59 (by omega) (by omega)).mp e))]
  · right
    refine ⟨fun rl rn n0 => ?_, fun s hs => ⟨d, _, hq, hA s hs, fun h => by omega, fun _ => rfl⟩⟩
    obtain ⟨rl', rn', nu', e1, e2, e3⟩ := hR rl rn n0
    refine ⟨K, rl', rn', nu', ?_⟩
    rw [e1]
    unfold mX8_readsCommand_J135
    rw [if_neg (by decide), (next_c hT ht hqT).2 (by omega), Option.bind_some, if_neg (by decide)]
/-- a command that cannot end here -/
theorem bad_p (h127 : ∀ i, i < T → t i ≤ 127) {p q d : Nat} {K le LEN nu di : Int32} (hq : q = p + d)
    (hw : mX0_isWhole K LEN di = 0) (h1 : mX0_hasName K = 0 ∨ 0 < di ∨ LEN = 8 ∨ ∀ _h : q < T, ¬ (97 ≤ t q ∧ t q ≤ 104)) (h2 : di = mX0_mostDigits K LEN ∨ ∀ _h : q < T, ¬ (48 ≤ t q ∧ t q ≤ 57))
    (hA : ∀ s : St6, s.1 = 0 → Acc t d p s (1, K, le, LEN, nu, di))
    (hR : ∀ rl rn n0, ∃ rl' rn' nu', mX8_readsCommand (nI T) (nI p) rl rn n0 tx = mX8_readsCommand_J135 0 (nI q) K rl' rn' nu' (nI T) tx) : Fac T tx t p q := by
  refine ⟨fun rl rn n0 => ?_, fun s hs => ⟨d, _, hq, hA s hs, fun h3 => ?_, fun _ => rfl⟩⟩
  · obtain ⟨rl', rn', nu', e1⟩ := hR rl rn n0
    exact ⟨K, rl', rn', nu', by rw [e1]; rfl⟩
  · have hc := h127 q h3
    exact (rd_end (K := K) (le := le) (LEN := LEN) (nu := nu) (di := di) hc (h1.elim Or.inl (fun h => Or.inr (h.elim Or.inl (fun h => Or.inr (h.elim Or.inl (fun h => Or.inr (h h3))))))) (h2.elim Or.inl (fun h => Or.inr (h h3)))).2 (Or.inr hw)
theorem rc_start (hT : T ≤ 120) (ht : ∀ i, i < T → tx i = nI (t i)) {p : Nat} (hp : p < T) {K : Int32} (hK : nI (t p) = K) (h : K = 43 ∨ K = 45 ∨ K = 60 ∨ K = 62 ∨ K = 61 ∨ K = 42) (rl rn n0 : Int32) :
    mX8_readsCommand (nI T) (nI p) rl rn n0 tx = mX8_readsCommand_J64 K (nI p) rl rn n0 (nI T) tx := by
  unfold mX8_readsCommand
  rw [(next_c hT ht (by omega)).1 hp, Option.bind_some, hK]
  rcases h with h | h | h | h | h | h <;> subst h <;> rfl
theorem cmd_c (hT : T ≤ 120) (ht : ∀ i, i < T → tx i = nI (t i)) (h127 : ∀ i, i < T → t i ≤ 127) {p : Nat} (hp : p < T) :
    (∃ q K le LEN nu, p < q ∧ q ≤ T ∧ Okc T tx t p q K le LEN nu ∧ Cmd K le LEN nu) ∨ ∃ q, p ≤ q ∧ q ≤ T ∧ Fac T tx t p q := by
  have hc := h127 p hp
  by_cases hN : mX0_hasName (nI (t p)) = 1
  · -- a name follows
    have hK4 : nI (t p) = 43 ∨ nI (t p) = 45 ∨ nI (t p) = 60 ∨ nI (t p) = 62 := by
      unfold mX0_hasName at hN
      by_cases a1 : nI (t p) = 43
      · exact Or.inl a1
      · by_cases a2 : nI (t p) = 45
        · exact Or.inr (Or.inl a2)
        · by_cases a3 : nI (t p) = 60
          · exact Or.inr (Or.inr (Or.inl a3))
          · by_cases a4 : nI (t p) = 62
            · exact Or.inr (Or.inr (Or.inr a4))
            · rw [if_neg a1, if_neg a2, if_neg a3, if_neg a4] at hN
              exact absurd hN (by decide)
    have hst := fun rl rn n0 => rc_start hT ht hp rfl (hK4.elim Or.inl (fun h => Or.inr (h.elim Or.inl (fun h => Or.inr (h.elim Or.inl (fun h => Or.inr (Or.inl h))))))) rl rn n0
    have hbg := fun s hs => begin_c s hs (nI (t p)) (Or.inl hN)
    generalize hK : nI (t p) = K at *
    have k42 : K ≠ 42 := by rcases hK4 with h | h | h | h <;> subst h <;> decide
    have k61 : K ≠ 61 := by rcases hK4 with h | h | h | h <;> subst h <;> decide
    obtain ⟨e, a, e1, e2, e3, e4, e5, e6⟩ := name_p hT ht h127 (K := K) (nu := 0) hN 8 0 (p + 1) 0 FU (by omega) (by omega) (by decide) (by unfold FU; omega)
    rw [Nat.zero_add] at e3 e4 e5 e6
    have hA : ∀ s : St6, s.1 = 0 → Acc t (1 + e) p s (1, K, nI a, nI e, 0, 0) := fun s hs => Acc.trans (d := 1) ⟨1, _, by rw [hK]; exact hbg s hs, by decide, rfl, rfl⟩ e5
    have hrn : mX8_readsName (nI T) (nI p + 1) tx = some (if e = 0 then 0 else 1, nI (p + 1 + e), nI a, nI e) := by
      unfold mX8_readsName
      rw [nI_1, show mX8_readsName_L10 (nI T) tx FU (nI (p + 1)) 0 0 = _ from e4]
      simp only [Option.bind_some]
      by_cases h0 : e = 0
      · subst h0; rfl
      · rw [if_neg (nI_nle (by omega) (by omega)), if_neg h0]
    have hJ : ∀ rl rn n0, mX8_readsCommand (nI T) (nI p) rl rn n0 tx = mX8_readsCommand_J116 (if e = 0 then 0 else 1) (nI (p + 1 + e)) K (nI a) (nI e) n0 (nI T) tx := by
      intro rl rn n0
      rw [hst]
      unfold mX8_readsCommand_J64
      rw [if_neg k42, if_neg k61, hrn]
      simp only [Option.bind_some]
      by_cases h0 : e = 0
      · subst h0; rfl
      · rw [if_neg h0]; rfl
    have nole : mX0_hasName K = 0 ∨ (0 : Int32) < 0 ∨ nI e = 8 ∨ ∀ _h : p + 1 + e < T, ¬ (97 ≤ t (p + 1 + e) ∧ t (p + 1 + e) ≤ 104) := by
      rcases e6 with e6 | e6
      · exact Or.inr (Or.inr (Or.inl (by rw [e6]; rfl)))
      · exact Or.inr (Or.inr (Or.inr e6))
    by_cases h0 : e = 0
    · right
      refine ⟨p + 1 + e, by omega, e2, bad_p h127 (d := 1 + e) (K := K) (le := nI a) (LEN := nI e) (nu := 0) (di := 0) (by omega) ?_ nole ?_ hA ?_⟩
      · subst h0
        unfold mX0_isWhole
        rw [if_neg k61, if_neg k42, if_pos (by decide +kernel)]
      · left
        subst h0
        unfold mX0_mostDigits
        rw [if_neg k61]
        split <;> rfl
      · intro rl rn n0
        refine ⟨nI a, nI e, n0, ?_⟩
        rw [hJ, if_pos h0]
        rfl
    · have hwh : ∀ di, mX0_isWhole K (nI e) di = 1 := by
        intro di
        unfold mX0_isWhole
        rw [if_neg k61, if_neg k42, if_neg (nI_nle (by omega) (by omega))]
      by_cases h43 : K = 43
      · have hmd : mX0_mostDigits K (nI e) = nI 2 := by
          unfold mX0_mostDigits
          rw [if_neg k61, if_pos h43, if_neg (nI_nle (by omega) (by omega))]
          rfl
        obtain ⟨g, u, g1, g2, g3, g4, g5, g6⟩ := digit_p hT ht h127 (K := K) (le := nI a) (LEN := nI e) (D := 2) (by omega) hmd 2 0 (p + 1 + e) 0 FU (by omega) e2 (by decide) (by unfold FU; omega)
        rw [Nat.zero_add] at g3 g4 g5 g6
        have hu : u ≤ 99 := by
          have : 10 ^ g ≤ 10 ^ 2 := Nat.pow_le_pow_right (by decide) g1
          omega
        have hrd : mX8_readsDigits (nI T) (nI (p + 1 + e)) tx 2 = some (if g = 0 then 0 else 1, nI (p + 1 + e + g), nI u) := by
          unfold mX8_readsDigits
          rw [show mX8_readsDigits_L7 2 (nI T) tx FU 0 (nI (p + 1 + e)) 0 = _ from g4]
          simp only [Option.bind_some]
          by_cases h0 : g = 0
          · subst h0; rfl
          · rw [if_neg (nI_nle (by omega) (by omega)), if_neg h0]
        have hfin := end_p hT ht h127 (p := p) (q := p + 1 + e + g) (d := 1 + e + g) (K := K) (le := nI a) (LEN := nI e) (nu := nI u) (di := nI g) (by omega) g2 (hwh _) (by
            rcases Nat.eq_zero_or_pos g with g0 | g0
            · subst g0; exact nole
            · exact Or.inr (Or.inl (by rw [show (0 : Int32) = nI 0 from rfl]; exact nI_lt g0 (by omega)))) (by
            rcases g6 with g6 | g6
            · left; rw [hmd, g6]
            · exact Or.inr g6) (fun s hs => Acc.trans (hA s hs) (by rw [show p + (1 + e) = p + 1 + e by omega]; exact g5)) (by
            intro rl rn n0
            refine ⟨nI a, nI e, nI u, ?_, fun _ => ⟨rfl, rfl⟩, fun _ => rfl⟩
            rw [hJ, if_neg h0]
            unfold mX8_readsCommand_J116
            rw [if_neg (by decide), if_pos h43, hrd]
            rfl)
        rcases hfin with ⟨f1, f2⟩ | f2
        · left
          exact ⟨_, K, nI a, nI e, nI u, by omega, f1, f2, Or.inl ⟨h43, ⟨a, e, by omega, by omega, e3, rfl, rfl⟩, u, hu, rfl⟩⟩
        · right
          exact ⟨_, by omega, g2, f2⟩
      · have hmd : mX0_mostDigits K (nI e) = 0 := by
          unfold mX0_mostDigits
          rw [if_neg k61, if_neg h43]
        have hfin := end_p hT ht h127 (p := p) (q := p + 1 + e) (d := 1 + e) (K := K) (le := nI a) (LEN := nI e) (nu := 0) (di := 0) (by omega) e2 (hwh _) nole (Or.inl hmd.symm) hA (by
            intro rl rn n0
            refine ⟨nI a, nI e, n0, ?_, fun _ => ⟨rfl, rfl⟩, fun h => (h.elim (fun h => absurd h h43) (fun h => absurd h k61))⟩
            rw [hJ, if_neg h0]
            unfold mX8_readsCommand_J116
            rw [if_neg (by decide), if_neg h43])
        rcases hfin with ⟨f1, f2⟩ | f2
        · left
          refine ⟨_, K, nI a, nI e, 0, by omega, f1, f2, Or.inr (Or.inl ⟨?_, a, e, by omega, by omega, e3, rfl, rfl⟩)⟩
          rcases hK4 with h | h | h | h
          · exact absurd h h43
          · exact Or.inl h
          · exact Or.inr (Or.inl h)
          · exact Or.inr (Or.inr h)
        · right
          exact ⟨_, by omega, e2, f2⟩
  · have hN0 : mX0_hasName (nI (t p)) = 0 := by
      unfold mX0_hasName at hN ⊢
      by_cases a1 : nI (t p) = 43
      · rw [if_pos a1] at hN; exact absurd rfl hN
      · by_cases a2 : nI (t p) = 45
        · rw [if_neg a1, if_pos a2] at hN; exact absurd rfl hN
        · by_cases a3 : nI (t p) = 60
          · rw [if_neg a1, if_neg a2, if_pos a3] at hN; exact absurd rfl hN
          · by_cases a4 : nI (t p) = 62
            · rw [if_neg a1, if_neg a2, if_neg a3, if_pos a4] at hN; exact absurd rfl hN
            · rw [if_neg a1, if_neg a2, if_neg a3, if_neg a4]
    by_cases h61 : nI (t p) = 61
    · have hst := fun rl rn n0 => rc_start hT ht hp h61 (by decide) rl rn n0
      have hbg := fun s hs => begin_c s hs (nI (t p)) (Or.inr (Or.inl h61))
      have hmd : mX0_mostDigits 61 0 = nI 1 := rfl
      obtain ⟨g, u, g1, g2, g3, g4, g5, g6⟩ := digit_p hT ht h127 (K := 61) (le := 0) (LEN := 0) (D := 1) (by omega) hmd 1 0 (p + 1) 0 FU (by omega) (by omega) (by decide) (by unfold FU; omega)
      rw [Nat.zero_add] at g3 g4 g5 g6
      have hA : ∀ s : St6, s.1 = 0 → Acc t (1 + g) p s (1, 61, 0, 0, nI u, nI g) := fun s hs => Acc.trans (d := 1) ⟨1, _, hbg s hs, by decide, rfl, by rw [h61]; rfl⟩ g5
      have hrd : mX8_readsDigits (nI T) (nI p + 1) tx 1 = some (if g = 0 then 0 else 1, nI (p + 1 + g), nI u) := by
        unfold mX8_readsDigits
        rw [nI_1, show mX8_readsDigits_L7 1 (nI T) tx FU 0 (nI (p + 1)) 0 = _ from g4]
        simp only [Option.bind_some]
        by_cases h0 : g = 0
        · subst h0; rfl
        · rw [if_neg (nI_nle (by omega) (by omega)), if_neg h0]
      have hJ : ∀ rl rn n0, mX8_readsCommand (nI T) (nI p) rl rn n0 tx = mX8_readsCommand_J116 (if g = 0 then 0 else 1) (nI (p + 1 + g)) 61 rl rn (nI u) (nI T) tx := by
        intro rl rn n0
        rw [hst]
        unfold mX8_readsCommand_J64
        rw [if_neg (by decide), if_pos rfl, hrd]
        simp only [Option.bind_some]
        by_cases h0 : g = 0
        · subst h0; rfl
        · rw [if_neg h0]; rfl
      by_cases h0 : g = 0
      · right
        refine ⟨p + 1 + g, by omega, g2, bad_p h127 (d := 1 + g) (K := 61) (le := 0) (LEN := 0) (nu := nI u) (di := nI g) (by omega) ?_ (Or.inl rfl) ?_ hA ?_⟩
        · subst h0; rfl
        · rcases g6 with g6 | g6
          · omega
          · exact Or.inr g6
        · intro rl rn n0
          refine ⟨rl, rn, nI u, ?_⟩
          rw [hJ, if_pos h0]
          rfl
      · have g1' : g = 1 := by omega
        have hfin := end_p hT ht h127 (p := p) (q := p + 1 + g) (d := 1 + g) (K := 61) (le := 0) (LEN := 0) (nu := nI u) (di := nI g) (by omega) g2 (by rw [g1']; rfl) (Or.inl rfl) (Or.inl (by rw [g1', hmd])) hA (by
            intro rl rn n0
            refine ⟨rl, rn, nI u, ?_, fun h => absurd h (by decide), fun _ => rfl⟩
            rw [hJ, if_neg h0]
            unfold mX8_readsCommand_J116
            rw [if_neg (by decide), if_neg (by decide)])
        rcases hfin with ⟨f1, f2⟩ | f2
        · left
          exact ⟨_, 61, 0, 0, nI u, by omega, f1, f2, Or.inr (Or.inr (Or.inl rfl))⟩
        · right
          exact ⟨_, by omega, g2, f2⟩
    · by_cases h42 : nI (t p) = 42
      · have hst := fun rl rn n0 => rc_start hT ht hp h42 (by decide) rl rn n0
        have hbg := fun s hs => begin_c s hs (nI (t p)) (Or.inr (Or.inr h42))
        have hA : ∀ s : St6, s.1 = 0 → Acc t 1 p s (1, 42, 0, 0, 0, 0) := fun s hs => ⟨1, _, hbg s hs, by decide, rfl, by rw [h42]; rfl⟩
        have hfin := end_p hT ht h127 (p := p) (q := p + 1) (d := 1) (K := 42) (le := 0) (LEN := 0) (nu := 0) (di := 0) rfl (by omega) rfl (Or.inl rfl) (Or.inl rfl) hA (by
            intro rl rn n0
            refine ⟨rl, rn, n0, ?_, fun h => absurd h (by decide), fun h => absurd h (by decide)⟩
            rw [hst]
            unfold mX8_readsCommand_J64
            rw [if_pos rfl, nI_1]
            unfold mX8_readsCommand_J116
            rw [if_neg (by decide), if_neg (by decide)])
        rcases hfin with ⟨f1, f2⟩ | f2
        · left
          exact ⟨_, 42, 0, 0, 0, by omega, f1, f2, Or.inr (Or.inr (Or.inr rfl))⟩
        · right
          exact ⟨_, by omega, by omega, f2⟩
      · right
        refine ⟨p, Nat.le_refl _, by omega, fun rl rn n0 => ?_, fun s hs => ⟨0, s, rfl, rfl, fun _ => begin_no s hs _ hN0 h61 h42, fun h => by omega⟩⟩
        refine ⟨nI (t p), rl, rn, n0, ?_⟩
        have n4 : nI (t p) ≠ 43 ∧ nI (t p) ≠ 45 ∧ nI (t p) ≠ 60 ∧ nI (t p) ≠ 62 := by
          refine ⟨?_, ?_, ?_, ?_⟩ <;> intro e <;> rw [e] at hN0 <;> exact absurd hN0 (by decide)
        unfold mX8_readsCommand
        rw [(next_c hT ht (by omega)).1 hp, Option.bind_some, if_neg n4.1, if_neg n4.2.1, if_neg n4.2.2.1, if_neg n4.2.2.2, if_neg h61, if_neg h42]
end Reads2
