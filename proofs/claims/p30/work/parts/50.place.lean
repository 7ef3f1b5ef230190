/-! The fifteen places of the law's tree, and their codes. -/
def plen (p : Nat) : Nat := if p = 0 then 0 else if p < 3 then 1 else if p < 7 then 2 else 3
def plet (p : Nat) : Nat := [0, 0, 1, 0, 1, 8, 9, 0, 1, 8, 9, 64, 65, 72, 73].getD p 0
def pcd (p : Nat) : Nat := cdN (plet p) (plen p)
def upp (p : Nat) : Nat := (p - 1) / 2
theorem pc_l8 : ∀ p, p < 15 → plen p ≤ 8 ∧ plet p < 8 ^ plen p := by decide +kernel
theorem pc_v {p : Nat} (h : p < 15) : VN (pcd p) := ⟨plet p, plen p, (pc_l8 p h).1, (pc_l8 p h).2, rfl⟩
theorem pc_ln {p : Nat} (h : p < 15) : lnN (pcd p) = plen p := cd_len (pc_l8 p h).1
theorem pc_dv {p : Nat} (h : p < 15) : pcd p / bsN (lnN (pcd p)) = plet p := by
  rw [pc_ln h]
  exact cd_div (pc_l8 p h).1
theorem pc_of {p : Nat} (h : p < 15) : mX2_of (nI (plet p)) (nI (plen p)) = nI (pcd p) := of_c (pc_l8 p h).1
theorem pc_0 : pcd 0 = 0 := rfl
theorem pc_inj0 : ∀ a, a < 15 → ∀ b, b < 15 → pcd a = pcd b → a = b := by decide +kernel
theorem pc_inj {a b : Nat} (ha : a < 15) (hb : b < 15) (e : pcd a = pcd b) : a = b := pc_inj0 a ha b hb e
theorem pc_pos : ∀ p, p < 15 → p ≠ 0 → pcd p ≠ 0 := by decide +kernel
theorem pc_len0 : ∀ p, p < 15 → mL_length (nI p) = nI (plen p) := by decide +kernel
theorem pc_let0 : ∀ p, p < 15 → mL_letters (nI p) = some (nI (plet p)) := by decide +kernel
theorem pc_abv0 : ∀ a, a < 15 → ∀ p, p < 15 → mL_above (nI a) (nI p) = some (if bgB (pcd a) (pcd p) then 1 else 0) := by decide +kernel
theorem pc_bef0 : ∀ a, a < 15 → ∀ b, b < 15 → mL_before (nI a) (nI b) = some (if pcd a < pcd b then 1 else 0) := by decide +kernel
theorem pc_ge0 : ∀ a, a < 15 → ∀ p, p < 15 → bgB (pcd a) (pcd p) = true → a ≤ p := by decide +kernel
theorem pc_up0 : ∀ a, a < 15 → ∀ p, p < 15 → p ≠ 0 → bgB (pcd a) (pcd p) = (decide (a = p) || bgB (pcd a) (pcd (upp p))) := by decide +kernel
theorem pc_cut0 : ∀ p, p < 15 → p ≠ 0 → ctN (pcd p) (plen p - 1) = pcd (upp p) ∧ plen (upp p) = plen p - 1 ∧ 0 < plen p := by decide +kernel
theorem pc_upI : ∀ p, p < 15 → p ≠ 0 → (nI p - 1) / 2 = nI (upp p) := by decide +kernel
theorem upp_lt {p : Nat} (h : p ≠ 0) : upp p < p := by unfold upp; omega
theorem pc_plus : ∀ p, p < 15 → nI p + 1 = nI (p + 1) := by decide +kernel
theorem pc_31 {p : Nat} (h : p < 15) : pcd p < 2 ^ 31 := (pc_v h).l31
/-- every beginning of a place's prefix is a place -/
theorem pc_ct : ∀ (p : Nat), p < 15 → ∀ l, l ≤ plen p → ∃ q, q < 15 ∧ ctN (pcd p) l = pcd q ∧ plen q = l := by
  intro p
  induction p using Nat.strongRecOn with
  | ind p ih =>
    intro hp l hl
    by_cases h1 : l = plen p
    · exact ⟨p, hp, by rw [h1, ← pc_ln hp]; exact ct_self (pc_v hp), h1.symm⟩
    · by_cases h0 : p = 0
      · subst h0
        have : plen 0 = 0 := rfl
        omega
      · obtain ⟨c1, c2, c3⟩ := pc_cut0 p hp h0
        have hu := upp_lt h0
        obtain ⟨q, hq, e, e2⟩ := ih (upp p) hu (by omega) l (by omega)
        refine ⟨q, hq, ?_, e2⟩
        rw [← e, ← c1]
        exact (ct_ct (pc_v hp) (by omega) (by rw [pc_ln hp]; omega)).symm
/-! Sums over places. -/
def hit (h : Nat → Bool) (x : Nat) : Nat → Bool
  | 0 => false
  | m + 1 => hit h x m || (h m && decide (x = pcd m))
theorem hit_iff (h : Nat → Bool) (x : Nat) : ∀ m, hit h x m = true ↔ ∃ p, p < m ∧ h p = true ∧ x = pcd p
  | 0 => ⟨fun e => (Bool.false_ne_true e).elim, fun ⟨p, hp, _⟩ => absurd hp (Nat.not_lt_zero _)⟩
  | m + 1 => by
    unfold hit
    rw [Bool.or_eq_true, hit_iff h x m, Bool.and_eq_true, decide_eq_true_iff]
    constructor
    · intro e
      rcases e with ⟨p, hp, e1⟩ | ⟨e1, e2⟩
      · exact ⟨p, by omega, e1⟩
      · exact ⟨m, by omega, e1, e2⟩
    · intro ⟨p, hp, e1, e2⟩
      rcases Nat.lt_or_ge p m with h1 | h1
      · exact Or.inl ⟨p, h1, e1, e2⟩
      · have : p = m := by omega
        subst this
        exact Or.inr ⟨e1, e2⟩
theorem tr_sm0 {M : Nat} {k : Nat → Nat} {C : Nat → Prop} (hE : En M k C) (h : Nat → Bool) (hC : ∀ p, p < 15 → h p = true → C (pcd p)) (g : Nat → Int32) : ∀ m, m ≤ 15 → sm (fun i => if hit h (k i) m then g (k i) else 0) M = sm (fun p => if h p then g (pcd p) else 0) m
  | 0, _ => sm_zero (fun i _ => rfl)
  | m + 1, hm => by
    rw [sm_s, ← tr_sm0 hE h hC g m (by omega)]
    by_cases e : h m = true
    · obtain ⟨i0, hi0, e0⟩ := hE.2.2 _ (hC m (by omega) e)
      rw [if_pos e]
      have s1 : sm (fun i => if i = i0 then g (k i) else 0) M = g (pcd m) := by
        rw [sm_one hi0 (fun i _ hne => if_neg hne), if_pos rfl, e0]
      rw [← s1]
      refine sm_plus (fun i hi => ?_)
      by_cases e1 : i = i0
      · subst e1
        have e2 : hit h (k i) m = false := by
          rw [← Bool.not_eq_true, hit_iff]
          intro ⟨p, hp, _, e3⟩
          rw [e0] at e3
          have := pc_inj (by omega) (by omega) e3
          omega
        have e4 : hit h (k i) (m + 1) = true := (hit_iff h _ _).mpr ⟨m, by omega, e, e0⟩
        rw [if_pos e4, if_neg (by rw [e2]; decide), if_pos rfl, Int32.zero_add]
      · have e2 : hit h (k i) (m + 1) = hit h (k i) m := by
          show (hit h (k i) m || (h m && decide (k i = pcd m))) = _
          have : ¬ k i = pcd m := fun e3 => e1 (hE.inj hi hi0 (by rw [e3, e0]))
          rw [decide_eq_false this, Bool.and_false, Bool.or_false]
        rw [e2, if_neg e1, Int32.add_zero]
    · rw [if_neg e, Int32.add_zero]
      refine sm_congr (fun i _ => ?_)
      have e2 : hit h (k i) (m + 1) = hit h (k i) m := by
        show (hit h (k i) m || (h m && decide (k i = pcd m))) = _
        rw [(Bool.not_eq_true _).mp e, Bool.false_and, Bool.or_false]
      rw [e2]
/-- what is summed over a list in order is summed over places -/
theorem tr_sm {M : Nat} {k : Nat → Nat} {C : Nat → Prop} (hE : En M k C) (h : Nat → Bool) (hC : ∀ x, C x ↔ ∃ p, p < 15 ∧ h p = true ∧ x = pcd p) (g : Nat → Int32) : sm (fun i => g (k i)) M = sm (fun p => if h p then g (pcd p) else 0) 15 := by
  rw [← tr_sm0 hE h (fun p hp e => (hC _).mpr ⟨p, hp, e, rfl⟩) g 15 (Nat.le_refl _)]
  refine sm_congr (fun i hi => ?_)
  rw [if_pos ((hit_iff h _ _).mpr ((hC _).mp (hE.2.1 i hi)))]
