/-! What the law's methods answer, over its arrays. -/
theorem rd15 (f : Nat → Int32) {p : Nat} (h : p < 15) : rdA 15 f (nI p) = some (f p) := rd_nI f h (by decide)
theorem wr15 (f : Nat → Int32) (v : Int32) {p : Nat} (h : p < 15) : wrA 15 f (nI p) v = some (upd f p v) := wr_nI f v h (by decide)
theorem ge15 {i : Nat} (h : i < 15) : ¬ (15 : Int32) ≤ nI i := nI_ge (b := 15) h (by decide)
theorem le15 : (15 : Int32) ≤ nI 15 := by decide
theorem i10 (b : Bool) : (if (if b then (1 : Int32) else 0) = 0 then (0 : Int32) else 1) = (if b then 1 else 0) := by cases b <;> decide
theorem i1b (b : Bool) : ((if b then (1 : Int32) else 0) = 1) ↔ b = true := by cases b <;> decide
theorem lsum (L : Nat → Int32 → Int32 → Option (Int32 × Int32)) (g : Nat → Int32) {i0 : Nat} (h0 : i0 ≤ 15) (hz : ∀ i, i < i0 → g i = 0)
    (hs : ∀ n a i, i0 ≤ i → i < 15 → L (n + 1) a (nI i) = L n (a + g i) (nI (i + 1))) (he : ∀ n a, L (n + 1) a (nI 15) = some (a, nI 15)) : L FU 0 (nI i0) = some (sm g 15, nI 15) := by
  have e := lpS L 15 g i0 hs he 0 FU (by unfold FU; omega) h0
  rw [sm_zero hz, Int32.zero_add, Int32.zero_add] at e
  exact e
theorem lrank_c (na : Nat → Int32) (h0 : ¬ na 0 = 1) {p : Nat} (hp : p < 15) : mL_rank na (nI p) = some (sm (fun k => if na k = 1 then (if pcd k < pcd p then 1 else 0) else 0) 15) := by
  have e := lsum (fun n a i => mL_rank_L4 na (nI p) n a i) (fun k => if na k = 1 then (if pcd k < pcd p then 1 else 0) else 0) (i0 := 1) (by decide)
    (fun i hi => by
      have : i = 0 := by omega
      subst this
      exact if_neg h0)
    (fun n a i h1 h2 => by
      show mL_rank_L4 na (nI p) (n + 1) a (nI i) = mL_rank_L4 na (nI p) n (a + (if na i = 1 then (if pcd i < pcd p then 1 else 0) else 0)) (nI (i + 1))
      rw [mL_rank_L4, if_neg (ge15 h2), rd15 na h2, Option.bind_some]
      by_cases e : na i = 1
      · rw [if_pos e, if_pos e, pc_bef0 i h2 p hp, Option.bind_some, nI_1]
        by_cases c : pcd i < pcd p
        · rw [if_pos c, if_neg (by decide)]
        · rw [if_neg c, if_pos rfl]
      · rw [if_neg e, if_neg e, nI_1])
    (fun n a => by
      show mL_rank_L4 na (nI p) (n + 1) a (nI 15) = _
      rw [mL_rank_L4, if_pos le15])
  unfold mL_rank
  rw [show mL_rank_L4 na (nI p) FU 0 1 = _ from e]
  rfl
theorem lindex_c (hq : Nat → Int32) {p : Nat} (hp : p < 15) : mL_index hq (nI p) = some (if hq p = 1 then sm (fun k => if hq k = 1 then (if pcd k < pcd p then 1 else 0) else 0) 15 else -1) := by
  have e := lsum (fun n a i => mL_index_L4 hq (nI p) n a i) (fun k => if hq k = 1 then (if pcd k < pcd p then 1 else 0) else 0) (i0 := 0) (by decide)
    (fun i hi => absurd hi (Nat.not_lt_zero _))
    (fun n a i h1 h2 => by
      show mL_index_L4 hq (nI p) (n + 1) a (nI i) = mL_index_L4 hq (nI p) n (a + (if hq i = 1 then (if pcd i < pcd p then 1 else 0) else 0)) (nI (i + 1))
      rw [mL_index_L4, if_neg (ge15 h2), rd15 hq h2, Option.bind_some]
      by_cases e : hq i = 1
      · rw [if_pos e, if_pos e, pc_bef0 i h2 p hp, Option.bind_some, nI_1]
        by_cases c : pcd i < pcd p
        · rw [if_pos c, if_neg (by decide)]
        · rw [if_neg c, if_pos rfl]
      · rw [if_neg e, if_neg e, nI_1])
    (fun n a => by
      show mL_index_L4 hq (nI p) (n + 1) a (nI 15) = _
      rw [mL_index_L4, if_pos le15])
  unfold mL_index
  rw [show mL_index_L4 hq (nI p) FU 0 0 = _ from e]
  simp only [Option.bind_some]
  rw [rd15 hq hp, Option.bind_some]
theorem lbelow_c (na we : Nat → Int32) {p : Nat} (hp : p < 15) (w : Int32) : mL_below na we (nI p) w = some (sm (fun k => if na k = 1 then (if bgB (pcd p) (pcd k) then (if w = 0 then 1 else we k) else 0) else 0) 15) := by
  have e := lsum (fun n a i => mL_below_L6 na (nI p) w we n a i) (fun k => if na k = 1 then (if bgB (pcd p) (pcd k) then (if w = 0 then 1 else we k) else 0) else 0) (i0 := p) (by omega)
    (fun i hi => by
      have : ¬ bgB (pcd p) (pcd i) = true := fun e => by
        have := pc_ge0 p hp i (by omega) e
        omega
      rw [if_neg this, ite_self])
    (fun n a i h1 h2 => by
      show mL_below_L6 na (nI p) w we (n + 1) a (nI i) = mL_below_L6 na (nI p) w we n (a + (if na i = 1 then (if bgB (pcd p) (pcd i) then (if w = 0 then 1 else we i) else 0) else 0)) (nI (i + 1))
      rw [mL_below_L6, if_neg (ge15 h2), rd15 na h2, Option.bind_some]
      by_cases e : na i = 1
      · rw [if_pos e, if_pos e, pc_abv0 p hp i h2, Option.bind_some, nI_1]
        by_cases c : bgB (pcd p) (pcd i) = true
        · rw [if_pos c, if_neg (by decide), if_pos c]
          by_cases c2 : w = 0
          · rw [if_pos c2, if_pos c2]
          · rw [if_neg c2, if_neg c2, rd15 we h2, Option.bind_some]
        · rw [if_neg c, if_pos rfl, if_neg c]
      · rw [if_neg e, if_neg e, nI_1])
    (fun n a => by
      show mL_below_L6 na (nI p) w we (n + 1) a (nI 15) = _
      rw [mL_below_L6, if_pos le15])
  unfold mL_below
  rw [show mL_below_L6 na (nI p) w we FU 0 (nI p) = _ from e]
  rfl
/-- whether a place is in the town -/
def inT (na : Nat → Int32) (p : Nat) : Bool := decide (p = 0) || decide (0 < cn (fun k => decide (na k = 1) && bgB (pcd p) (pcd k)) 15)
theorem intown_c (na : Nat → Int32) {p : Nat} (hp : p < 15) : mL_inTown na (nI p) = some (if inT na p then 1 else 0) := by
  let ib : Nat → Bool := fun i => decide (p = 0) || decide (0 < cn (fun k => decide (na k = 1) && bgB (pcd p) (pcd k)) i)
  obtain ⟨t, ht, e⟩ := lpI (fun n i (s : Int32) => mL_inTown_L12 na (nI p) n s (nI i)) 15 (fun i s => s = if ib i then 1 else 0) (fun t => t.1 = if inT na p then 1 else 0)
    (fun n i s h1 h2 => by
      refine ⟨if ib (i + 1) then 1 else 0, rfl, ?_⟩
      show mL_inTown_L12 na (nI p) (n + 1) s (nI i) = mL_inTown_L12 na (nI p) n (if ib (i + 1) then 1 else 0) (nI (i + 1))
      have hib : ib (i + 1) = (ib i || (decide (na i = 1) && bgB (pcd p) (pcd i))) := by
        show (decide (p = 0) || decide (0 < cn _ (i + 1))) = ((decide (p = 0) || decide (0 < cn _ i)) || _)
        rw [cn_s]
        cases decide (na i = 1) && bgB (pcd p) (pcd i)
        · simp
        · simp
      rw [mL_inTown_L12, if_neg (ge15 h1), h2, nI_1, hib]
      cases c : ib i
      · rw [if_pos (show (if false = true then (1 : Int32) else 0) = 0 from rfl), rd15 na h1, Option.bind_some]
        by_cases e : na i = 1
        · rw [if_pos e, pc_abv0 p hp i h1, Option.bind_some, decide_eq_true e, i10]
          rfl
        · rw [if_neg e, decide_eq_false e]
          rfl
      · rw [if_neg (by decide)]
        rfl)
    (fun n s h2 => by
      refine ⟨(s, nI 15), h2, ?_⟩
      show mL_inTown_L12 na (nI p) (n + 1) s (nI 15) = _
      rw [mL_inTown_L12, if_pos le15])
    (15 - p) FU p (if nI p = 0 then (1 : Int32) else 0) (by omega) (by unfold FU; omega) (by
      have : cn (fun k => decide (na k = 1) && bgB (pcd p) (pcd k)) p = 0 := cn_false (fun k hk => by
        have : bgB (pcd p) (pcd k) = false := by
          rw [← Bool.not_eq_true]
          intro e
          have := pc_ge0 p hp k (by omega) e
          omega
        rw [this, Bool.and_false])
      show (if nI p = 0 then (1 : Int32) else 0) = if (decide (p = 0) || decide (0 < cn _ p)) then 1 else 0
      rw [this]
      by_cases h0 : p = 0
      · subst h0; rfl
      · rw [if_neg (nI_ne0 (by omega) (by omega)), decide_eq_false h0]
        rfl)
  unfold mL_inTown
  rw [show mL_inTown_L12 na (nI p) FU (if nI p = 0 then (1 : Int32) else 0) (nI p) = _ from e]
  obtain ⟨t1, t2⟩ := t
  have ht : t1 = if inT na p then 1 else 0 := ht
  simp only [Option.bind_some]
  rw [ht]
  cases inT na p <;> rfl
/-! Parents and children among places. -/
def par (hq : Nat → Int32) : Nat → Nat → Nat
  | 0, _ => 0
  | d + 1, x => if hq x = 0 then par hq d (upp x) else x
def parP (hq : Nat → Int32) (p : Nat) : Nat := par hq (plen p) (upp p)
theorem par_c (hq : Nat → Int32) (h0 : ¬ hq 0 = 0) : ∀ (d n x : Nat), x < 15 → plen x < d → d ≤ n → mL_parent_L6 hq n (nI x) = some (nI (par hq d x))
  | 0, _, _, _, h, _ => absurd h (Nat.not_lt_zero _)
  | d + 1, n, x, hx, h, hn => by
    obtain ⟨n, rfl⟩ : ∃ m, n = m + 1 := ⟨n - 1, by omega⟩
    rw [mL_parent_L6, rd15 hq hx, Option.bind_some]
    unfold par
    by_cases e : hq x = 0
    · have hx0 : x ≠ 0 := fun e2 => h0 (by rw [← e2]; exact e)
      obtain ⟨c1, c2, c3⟩ := pc_cut0 x hx hx0
      have hu := upp_lt hx0
      rw [if_pos e, if_pos e, pc_upI x hx hx0]
      exact par_c hq h0 d n (upp x) (by omega) (by omega) (by omega)
    · rw [if_neg e, if_neg e]
theorem lpar_c (hq : Nat → Int32) (h0 : ¬ hq 0 = 0) {p : Nat} (hp : p < 15) (hp0 : p ≠ 0) : mL_parent hq (nI p) = some (nI (parP hq p)) := by
  obtain ⟨c1, c2, c3⟩ := pc_cut0 p hp hp0
  have hu := upp_lt hp0
  have h8 := (pc_l8 p hp).1
  unfold mL_parent
  rw [pc_upI p hp hp0, par_c hq h0 (plen p) FU (upp p) (by omega) (by omega) (by unfold FU; omega)]
  rfl
theorem par_p (hq : Nat → Int32) (h0 : ¬ hq 0 = 0) : ∀ (d x : Nat), x < 15 → plen x < d → par hq d x ≤ x ∧ ¬ hq (par hq d x) = 0 ∧ bgB (pcd (par hq d x)) (pcd x) = true ∧ ∀ r, r < 15 → ¬ hq r = 0 → bgB (pcd r) (pcd x) = true → bgB (pcd r) (pcd (par hq d x)) = true
  | 0, _, _, h => absurd h (Nat.not_lt_zero _)
  | d + 1, x, hx, h => by
    unfold par
    by_cases e : hq x = 0
    · have hx0 : x ≠ 0 := fun e2 => h0 (by rw [← e2]; exact e)
      obtain ⟨c1, c2, c3⟩ := pc_cut0 x hx hx0
      have hu := upp_lt hx0
      obtain ⟨i1, i2, i3, i4⟩ := par_p hq h0 d (upp x) (by omega) (by omega)
      rw [if_pos e]
      refine ⟨by omega, i2, ?_, fun r hr h1 h2 => i4 r hr h1 ?_⟩
      · rw [pc_up0 _ (by omega) x hx hx0, i3, Bool.or_true]
      · rw [pc_up0 r hr x hx hx0, Bool.or_eq_true, decide_eq_true_iff] at h2
        rcases h2 with h2 | h2
        · exact absurd (by rw [h2]; exact e) h1
        · exact h2
    · rw [if_neg e]
      exact ⟨Nat.le_refl _, e, bgB_iff.mpr (bg_rfl _), fun r hr h1 h2 => h2⟩
theorem parP_p (hq : Nat → Int32) (h0 : ¬ hq 0 = 0) {p : Nat} (hp : p < 15) (hp0 : p ≠ 0) : parP hq p < p ∧ ¬ hq (parP hq p) = 0 ∧ bgB (pcd (parP hq p)) (pcd p) = true ∧ ∀ r, r < 15 → r ≠ p → ¬ hq r = 0 → bgB (pcd r) (pcd p) = true → bgB (pcd r) (pcd (parP hq p)) = true := by
  obtain ⟨c1, c2, c3⟩ := pc_cut0 p hp hp0
  have hu := upp_lt hp0
  obtain ⟨i1, i2, i3, i4⟩ := par_p hq h0 (plen p) (upp p) (by omega) (by omega)
  refine ⟨Nat.lt_of_le_of_lt i1 hu, i2, ?_, fun r hr hne h1 h2 => i4 r hr h1 ?_⟩
  · have : parP hq p = par hq (plen p) (upp p) := rfl
    rw [this, pc_up0 _ (by omega) p hp hp0, i3, Bool.or_true]
  · rw [pc_up0 r hr p hp hp0, Bool.or_eq_true, decide_eq_true_iff] at h2
    rcases h2 with h2 | h2
    · exact absurd h2 hne
    · exact h2
theorem lchildren_c (hq : Nat → Int32) (h0 : ¬ hq 0 = 0) {p : Nat} (hp : p < 15) : mL_children hq (nI p) = some (sm (fun k => if hq k = 1 then (if k ≠ 0 ∧ parP hq k = p then 1 else 0) else 0) 15) := by
  have e := lsum (fun n a i => mL_children_L6 hq (nI p) n a i) (fun k => if hq k = 1 then (if k ≠ 0 ∧ parP hq k = p then 1 else 0) else 0) (i0 := p + 1) (by omega)
    (fun i hi => by
      have : ¬ (i ≠ 0 ∧ parP hq i = p) := fun ⟨e1, e2⟩ => by
        have := (parP_p hq h0 (show i < 15 by omega) e1).1
        omega
      rw [if_neg this, ite_self])
    (fun n a i h1 h2 => by
      show mL_children_L6 hq (nI p) (n + 1) a (nI i) = mL_children_L6 hq (nI p) n (a + (if hq i = 1 then (if i ≠ 0 ∧ parP hq i = p then 1 else 0) else 0)) (nI (i + 1))
      have hi0 : i ≠ 0 := by omega
      rw [mL_children_L6, if_neg (ge15 h2), rd15 hq h2, Option.bind_some]
      by_cases e : hq i = 1
      · have hl := (parP_p hq h0 h2 hi0).1
        rw [if_pos e, if_pos e, lpar_c hq h0 h2 hi0, Option.bind_some, nI_1]
        by_cases c : parP hq i = p
        · rw [if_pos (congrArg nI c), if_pos ⟨hi0, c⟩]
        · rw [if_neg (fun e2 => c ((nI_eq (by omega) (by omega)).mp e2)), if_neg (fun e2 => c e2.2)]
      · rw [if_neg e, if_neg e, nI_1])
    (fun n a => by
      show mL_children_L6 hq (nI p) (n + 1) a (nI 15) = _
      rw [mL_children_L6, if_pos le15])
  unfold mL_children
  rw [nI_1, show mL_children_L6 hq (nI p) FU 0 (nI (p + 1)) = _ from e]
  rfl
/-- the child of a place that has one alone -/
theorem lchild_c (hq : Nat → Int32) (h0 : ¬ hq 0 = 0) {p q : Nat} (hp : p < 15) (hq15 : q < 15) (hpq : p < q) (e1 : hq q = 1) (e2 : parP hq q = p) (u : ∀ r, r < 15 → r ≠ 0 → hq r = 1 → parP hq r = p → r = q) : mL_child hq (nI p) = some (nI q) := by
  obtain ⟨t, ht, e⟩ := lpD (fun n i (s : Int32) => mL_child_L5 (nI p) hq n s (nI i)) p (fun i s => i < 15 ∧ s = if i < q then nI q else -1) (fun t => t.1 = nI q)
    (fun n i s h1 h2 => by
      obtain ⟨h3, h4⟩ := h2
      refine ⟨if i < q then nI q else -1, ⟨by omega, rfl⟩, ?_⟩
      show mL_child_L5 (nI p) hq (n + 1) s (nI (i + 1)) = mL_child_L5 (nI p) hq n (if i < q then nI q else -1) (nI i)
      rw [mL_child_L5, if_neg (nI_ge (show p < i + 1 by omega) (by omega)), rd15 hq h3, Option.bind_some, h4]
      have hl := (parP_p hq h0 h3 (by omega)).1
      by_cases e : hq (i + 1) = 1
      · rw [if_pos e, lpar_c hq h0 h3 (by omega), Option.bind_some, q_m1]
        by_cases c : parP hq (i + 1) = p
        · have := u (i + 1) h3 (by omega) e c
          rw [if_pos (congrArg nI c), if_pos (show i < q by omega), this]
        · rw [if_neg (fun e3 => c ((nI_eq (by omega) (by omega)).mp e3))]
          have : i + 1 ≠ q := fun e3 => c (by rw [e3]; exact e2)
          by_cases c2 : i < q
          · rw [if_pos c2, if_pos (show i + 1 < q by omega)]
          · rw [if_neg c2, if_neg (show ¬ i + 1 < q by omega)]
      · rw [if_neg e, q_m1]
        have : i + 1 ≠ q := fun e3 => e (by rw [e3]; exact e1)
        by_cases c2 : i < q
        · rw [if_pos c2, if_pos (show i + 1 < q by omega)]
        · rw [if_neg c2, if_neg (show ¬ i + 1 < q by omega)])
    (fun n s h2 => by
      refine ⟨(s, nI p), h2.2.trans (if_pos hpq), ?_⟩
      show mL_child_L5 (nI p) hq (n + 1) s (nI p) = _
      rw [mL_child_L5, if_pos (nI_le (Nat.le_refl _) (by omega))])
    (14 - p) FU 14 (-1) (by omega) (by unfold FU; omega) ⟨by omega, (if_neg (by omega)).symm⟩
  unfold mL_child
  rw [show mL_child_L5 (nI p) hq FU (-1) 14 = _ from e]
  obtain ⟨t1, t2⟩ := t
  have ht : t1 = nI q := ht
  simp only [Option.bind_some]
  rw [ht]
/-- roads to a place: houses above it and in it, but for the root -/
def rdS (hq : Nat → Int32) (x : Nat) : Int32 := sm (fun k => if hq k = 1 then (if k ≠ 0 ∧ bgB (pcd k) (pcd x) = true then 1 else 0) else 0) 15
theorem rdS_0 (hq : Nat → Int32) : rdS hq 0 = 0 := sm_zero (fun i hi => by
  have : ¬ (i ≠ 0 ∧ bgB (pcd i) (pcd 0) = true) := fun ⟨e1, e2⟩ => by
    have := pc_ge0 i hi 0 (by decide) e2
    omega
  rw [if_neg this, ite_self])
theorem rdS_s (hq : Nat → Int32) {x : Nat} (hx : x < 15) (hx0 : x ≠ 0) (h01 : hq x = 0 ∨ hq x = 1) : rdS hq x = hq x + rdS hq (upp x) := by
  have hu := upp_lt hx0
  have e1 : hq x = sm (fun k => if k = x then hq x else 0) 15 := by rw [sm_one hx (fun i _ hne => if_neg hne), if_pos rfl]
  conv => rhs; rw [e1]
  unfold rdS
  refine sm_plus (fun i hi => ?_)
  rw [pc_up0 i hi x hx hx0]
  by_cases c : i = x
  · subst c
    have : ¬ (i ≠ 0 ∧ bgB (pcd i) (pcd (upp i)) = true) := fun ⟨_, e2⟩ => by
      have := pc_ge0 i hi (upp i) (by omega) e2
      omega
    rw [if_neg this, if_pos rfl, ite_self, Int32.add_zero, decide_eq_true rfl, Bool.true_or]
    rcases h01 with h | h
    · rw [if_neg (by rw [h]; decide), h]
    · rw [if_pos h, if_pos ⟨hx0, rfl⟩, h]
  · rw [if_neg c, Int32.zero_add, decide_eq_false c, Bool.false_or]
theorem lroads_c (hq : Nat → Int32) (h01 : ∀ p, p < 15 → hq p = 0 ∨ hq p = 1) {p : Nat} (hp : p < 15) : mL_roads hq (nI p) = some (rdS hq p) := by
  have key : ∀ (d n x : Nat) (a : Int32), x < 15 → plen x < d → d ≤ n → mL_roads_L4 hq n a (nI x) = some (a + rdS hq x, nI 0) := by
    intro d
    induction d with
    | zero => intro n x a hx h; exact absurd h (Nat.not_lt_zero _)
    | succ d ih =>
      intro n x a hx h hn
      obtain ⟨n, rfl⟩ : ∃ m, n = m + 1 := ⟨n - 1, by omega⟩
      rw [mL_roads_L4]
      by_cases h0 : x = 0
      · subst h0
        rw [if_pos (show nI 0 ≤ 0 by decide), rdS_0, Int32.add_zero]
      · obtain ⟨c1, c2, c3⟩ := pc_cut0 x hx h0
        have hu := upp_lt h0
        rw [if_neg (nI_nle (by omega) (by omega)), rd15 hq hx, Option.bind_some, pc_upI x hx h0, ih n (upp x) _ (by omega) (by omega) (by omega), rdS_s hq hx h0 (h01 x hx), Int32.add_assoc]
  have h8 := (pc_l8 p hp).1
  unfold mL_roads
  rw [key 9 FU p 0 hp (by omega) (by unfold FU; omega), Int32.zero_add]
  rfl
theorem lcost_c (na we hq : Nat → Int32) (h0 : ¬ na 0 = 1) (h01 : ∀ p, p < 15 → hq p = 0 ∨ hq p = 1) : mL_cost na we hq = some (sm (fun k => if na k = 1 then we k * rdS hq k else 0) 15) := by
  have e := lsum (fun n a i => mL_cost_L5 na we hq n a i) (fun k => if na k = 1 then we k * rdS hq k else 0) (i0 := 1) (by decide)
    (fun i hi => by
      have : i = 0 := by omega
      subst this
      exact if_neg h0)
    (fun n a i h1 h2 => by
      show mL_cost_L5 na we hq (n + 1) a (nI i) = mL_cost_L5 na we hq n (a + (if na i = 1 then we i * rdS hq i else 0)) (nI (i + 1))
      rw [mL_cost_L5, if_neg (ge15 h2), rd15 na h2, Option.bind_some]
      by_cases e : na i = 1
      · rw [if_pos e, if_pos e, rd15 we h2, Option.bind_some, lroads_c hq h01 h2, Option.bind_some, nI_1]
      · rw [if_neg e, if_neg e, nI_1])
    (fun n a => by
      show mL_cost_L5 na we hq (n + 1) a (nI 15) = _
      rw [mL_cost_L5, if_pos le15])
  unfold mL_cost
  rw [show mL_cost_L5 na we hq FU 0 1 = _ from e]
  rfl
/-- houses above both of two places, but for the root -/
def btS (hq : Nat → Int32) (x y : Nat) : Int32 := sm (fun k => if hq k = 1 then (if k ≠ 0 ∧ (bgB (pcd k) (pcd x) && bgB (pcd k) (pcd y)) = true then 1 else 0) else 0) 15
theorem lbtw_c (hq : Nat → Int32) (h01 : ∀ p, p < 15 → hq p = 0 ∨ hq p = 1) {a b : Nat} (ha : a < 15) (hb : b < 15) : mL_between hq (nI a) (nI b) = some (rdS hq a + rdS hq b - 2 * btS hq a b) := by
  have e := lsum (fun n x i => mL_between_L5 hq (nI a) (nI b) n x i) (fun k => if hq k = 1 then (if k ≠ 0 ∧ (bgB (pcd k) (pcd a) && bgB (pcd k) (pcd b)) = true then 1 else 0) else 0) (i0 := 1) (by decide)
    (fun i hi => by
      have : i = 0 := by omega
      subst this
      rw [if_neg (show ¬ ((0 : Nat) ≠ 0 ∧ (bgB (pcd 0) (pcd a) && bgB (pcd 0) (pcd b)) = true) from fun h => h.1 rfl), ite_self])
    (fun n x i h1 h2 => by
      show mL_between_L5 hq (nI a) (nI b) (n + 1) x (nI i) = mL_between_L5 hq (nI a) (nI b) n (x + (if hq i = 1 then (if i ≠ 0 ∧ (bgB (pcd i) (pcd a) && bgB (pcd i) (pcd b)) = true then 1 else 0) else 0)) (nI (i + 1))
      have hi0 : i ≠ 0 := by omega
      rw [mL_between_L5, if_neg (ge15 h2), rd15 hq h2, Option.bind_some]
      by_cases e : hq i = 1
      · rw [if_pos e, if_pos e, pc_abv0 i h2 a ha, Option.bind_some, nI_1]
        cases c : bgB (pcd i) (pcd a)
        · rw [if_pos (by decide), if_neg (by simp)]
        · rw [if_neg (by decide), pc_abv0 i h2 b hb, Option.bind_some]
          cases c2 : bgB (pcd i) (pcd b)
          · rw [if_neg (show ¬ (i ≠ 0 ∧ (true && false) = true) from fun h => absurd h.2 (by decide))]
            rfl
          · rw [if_pos (show i ≠ 0 ∧ (true && true) = true from ⟨hi0, rfl⟩)]
            rfl
      · rw [if_neg e, if_neg e, nI_1])
    (fun n x => by
      show mL_between_L5 hq (nI a) (nI b) (n + 1) x (nI 15) = _
      rw [mL_between_L5, if_pos le15])
  unfold mL_between
  rw [show mL_between_L5 hq (nI a) (nI b) FU 0 1 = _ from e]
  simp only [Option.bind_some]
  rw [lroads_c hq h01 ha, Option.bind_some, lroads_c hq h01 hb, Option.bind_some]
  rfl
