/-! The law's arrays and the town. -/
def LI (na we hq : Nat → Int32) (C : Nat → Prop) (W : Nat → Int32) : Prop :=
  (∀ p, p < 15 → (na p = 0 ∨ na p = 1) ∧ (hq p = 0 ∨ hq p = 1) ∧ (hq p = 1 ↔ C (pcd p)) ∧ W (pcd p) = (if na p = 1 then we p else -1) ∧ (na p = 1 → ∃ w : Nat, w ≤ 99 ∧ we p = nI w)) ∧ ∀ x, C x → ∃ p, p < 15 ∧ x = pcd p
section LA
variable {na we hq : Nat → Int32} {H : Nat} {k : Nat → Nat} {W : Nat → Int32} {C : Nat → Prop} {N : Nat} {n : Nat → Nat}
theorem LI.h01 (hL : LI na we hq C W) : ∀ p, p < 15 → hq p = 0 ∨ hq p = 1 := fun p hp => (hL.1 p hp).2.1
theorem LI.hz (hL : LI na we hq C W) {p : Nat} (hp : p < 15) : (¬ hq p = 0) ↔ hq p = 1 := by
  rcases hL.h01 p hp with h | h
  · rw [h]; decide
  · rw [h]; decide
theorem LI.h0 (hL : LI na we hq C W) (h : Hs H k C) : hq 0 = 1 := ((hL.1 0 (by decide)).2.2.1).mpr (by rw [pc_0]; exact h.2.1)
theorem LI.hn0 (hL : LI na we hq C W) (h : Hs H k C) : ¬ hq 0 = 0 := by
  rw [hL.h0 h]
  decide
theorem LI.n0 (hL : LI na we hq C W) (hT : Tn H k C N n W) : ¬ na 0 = 1 := by
  intro e
  obtain ⟨-, -, -, h1, h2⟩ := hL.1 0 (by decide)
  obtain ⟨w, hw, e2⟩ := h2 e
  rw [if_pos e, pc_0, hT.2.2.2.1, e2] at h1
  exact q_neg (show w < 2 ^ 31 by omega) h1.symm
theorem LI.wn (hL : LI na we hq C W) {p : Nat} (hp : p < 15) : ¬ W (pcd p) = -1 ↔ na p = 1 := by
  obtain ⟨-, -, -, h1, h2⟩ := hL.1 p hp
  constructor
  · intro h3
    by_cases e : na p = 1
    · exact e
    · rw [if_neg e] at h1
      exact absurd h1 h3
  · intro e
    obtain ⟨w, hw, e2⟩ := h2 e
    rw [h1, if_pos e, e2]
    exact q_neg (by omega)
theorem LI.ww (hL : LI na we hq C W) {p : Nat} (hp : p < 15) (e : na p = 1) : W (pcd p) = we p := by
  rw [(hL.1 p hp).2.2.2.1, if_pos e]
theorem hsum (hL : LI na we hq C W) (hE : En H k C) (g : Nat → Int32) : sm (fun i => g (k i)) H = sm (fun p => if hq p = 1 then g (pcd p) else 0) 15 := by
  rw [tr_sm hE (fun p => decide (hq p = 1)) (fun x => ?_) g]
  · refine sm_congr (fun p hp => ?_)
    by_cases e : hq p = 1
    · rw [if_pos e, if_pos (decide_eq_true e)]
    · rw [if_neg e, if_neg (by rw [decide_eq_false e]; decide)]
  · constructor
    · intro hx
      obtain ⟨p, hp, e⟩ := hL.2 x hx
      exact ⟨p, hp, decide_eq_true (((hL.1 p hp).2.2.1).mpr (by rw [← e]; exact hx)), e⟩
    · intro ⟨p, hp, e1, e2⟩
      rw [e2]
      exact ((hL.1 p hp).2.2.1).mp (of_decide_eq_true e1)
theorem nsum (hL : LI na we hq C W) (hT : Tn H k C N n W) (g : Nat → Int32) : sm (fun r => g (n r)) N = sm (fun p => if na p = 1 then g (pcd p) else 0) 15 := by
  rw [tr_sm hT.2.1.1 (fun p => decide (na p = 1)) (fun x => ?_) g]
  · refine sm_congr (fun p hp => ?_)
    by_cases e : na p = 1
    · rw [if_pos e, if_pos (decide_eq_true e)]
    · rw [if_neg e, if_neg (by rw [decide_eq_false e]; decide)]
  · constructor
    · intro hx
      obtain ⟨p, hp, e⟩ := hL.2 x (hT.2.2.1 x hx)
      exact ⟨p, hp, decide_eq_true ((hL.wn hp).mp (by rw [← e]; exact hx)), e⟩
    · intro ⟨p, hp, e1, e2⟩
      rw [e2]
      exact (hL.wn hp).mpr (of_decide_eq_true e1)
theorem nI_cn (p : Nat → Bool) (M : Nat) : nI (cn p M) = sm (fun i => if p i = true then 1 else 0) M := (sm_nI p M).symm
theorem a_rank (hL : LI na we hq C W) (hT : Tn H k C N n W) (x : Nat) : nI (plc N n x) = sm (fun p => if na p = 1 then (if pcd p < x then 1 else 0) else 0) 15 := by
  unfold plc
  rw [nI_cn, ← nsum hL hT (fun y => if y < x then 1 else 0)]
  refine sm_congr (fun i _ => ?_)
  by_cases e : n i < x
  · rw [if_pos e, if_pos (decide_eq_true e)]
  · rw [if_neg e, if_neg (by rw [decide_eq_false e]; decide)]
theorem a_index (hL : LI na we hq C W) (hE : En H k C) (x : Nat) : nI (plc H k x) = sm (fun p => if hq p = 1 then (if pcd p < x then 1 else 0) else 0) 15 := by
  unfold plc
  rw [nI_cn, ← hsum hL hE (fun y => if y < x then 1 else 0)]
  refine sm_congr (fun i _ => ?_)
  by_cases e : k i < x
  · rw [if_pos e, if_pos (decide_eq_true e)]
  · rw [if_neg e, if_neg (by rw [decide_eq_false e]; decide)]
theorem a_nbl (hL : LI na we hq C W) (hT : Tn H k C N n W) (x : Nat) : nI (nbl N n x) = sm (fun p => if na p = 1 then (if bgB x (pcd p) then 1 else 0) else 0) 15 := by
  unfold nbl
  rw [nI_cn]
  exact nsum hL hT (fun y => if bgB x y then 1 else 0)
theorem a_wbl (hL : LI na we hq C W) (hT : Tn H k C N n W) (x : Nat) : wbl N n W x = sm (fun p => if na p = 1 then (if bgB x (pcd p) then we p else 0) else 0) 15 := by
  unfold wbl
  rw [nsum hL hT (fun y => if bgB x y then W y else 0)]
  refine sm_congr (fun p hp => ?_)
  by_cases e : na p = 1
  · rw [if_pos e, if_pos e, hL.ww hp e]
  · rw [if_neg e, if_neg e]
theorem a_N (hL : LI na we hq C W) (hT : Tn H k C N n W) : nI N = sm na 15 := by
  have e : sm (fun _ => (1 : Int32)) N = nI N := by
    have := sm_nI (fun _ => true) N
    rw [cn_true (fun _ _ => rfl)] at this
    exact this
  rw [← e, nsum hL hT (fun _ => 1)]
  refine sm_congr (fun p hp => ?_)
  rcases (hL.1 p hp).1 with h | h
  · rw [if_neg (by rw [h]; decide), h]
  · rw [if_pos h, h]
theorem a_H (hL : LI na we hq C W) (hE : En H k C) : nI H = sm hq 15 := by
  have e : sm (fun _ => (1 : Int32)) H = nI H := by
    have := sm_nI (fun _ => true) H
    rw [cn_true (fun _ _ => rfl)] at this
    exact this
  rw [← e, hsum hL hE (fun _ => 1)]
  refine sm_congr (fun p hp => ?_)
  rcases hL.h01 p hp with h | h
  · rw [if_neg (by rw [h]; decide), h]
  · rw [if_pos h, h]
/-- a count of houses with the root is that without it, and one more -/
theorem one_up (hL : LI na we hq C W) (h : Hs H k C) (q : Nat → Bool) (hq0 : q 0 = true) : nI (cn (fun j => q (k j)) H) = 1 + sm (fun p => if hq p = 1 then (if p ≠ 0 ∧ q (pcd p) = true then 1 else 0) else 0) 15 := by
  rw [nI_cn, hsum hL h.en (fun y => if q y = true then 1 else 0)]
  have e1 : (1 : Int32) = sm (fun p => if p = 0 then 1 else 0) 15 := by decide +kernel
  refine Eq.trans ?_ (congrArg (fun z => z + sm (fun p => if hq p = 1 then (if p ≠ 0 ∧ q (pcd p) = true then 1 else 0) else 0) 15) e1.symm)
  show _ = sm (fun p => if p = 0 then 1 else 0) 15 + sm (fun p => if hq p = 1 then (if p ≠ 0 ∧ q (pcd p) = true then 1 else 0) else 0) 15
  refine sm_plus (fun p hp => ?_)
  by_cases e : p = 0
  · subst e
    rw [if_pos (hL.h0 h), if_pos rfl, if_pos (hL.h0 h), pc_0, if_pos hq0, if_neg (fun h => h.1 rfl), Int32.add_zero]
  · rw [if_neg e, Int32.zero_add]
    by_cases e2 : hq p = 1
    · rw [if_pos e2, if_pos e2]
      by_cases e3 : q (pcd p) = true
      · rw [if_pos e3, if_pos ⟨e, e3⟩]
      · rw [if_neg e3, if_neg (fun h => e3 h.2)]
    · rw [if_neg e2, if_neg e2]
theorem pred_1 {m : Nat} {s : Int32} (h : nI m = 1 + s) (hm : 0 < m) : nI (m - 1) = s := by
  obtain ⟨d, rfl⟩ : ∃ d, m = d + 1 := ⟨m - 1, by omega⟩
  have h2 : nI d + 1 = s + 1 := by rw [← nI_succ, h, Int32.add_comm]
  have h3 : nI d + 1 - 1 = s + 1 - 1 := congrArg (fun x => x - 1) h2
  rw [Int32.add_sub_cancel, Int32.add_sub_cancel] at h3
  exact h3
theorem a_dp (hL : LI na we hq C W) (h : Hs H k C) {p : Nat} (hp : p < 15) : nI (dp H k (pcd p) - 1) = rdS hq p := by
  have := one_up hL h (fun y => bgB y (pcd p)) (bgB_iff.mpr (by rw [← h.k0]; exact h.bg0 (pc_v hp)))
  exact pred_1 this (dp_pos h (pc_v hp))
theorem cb_pos (h : Hs H k C) {x y : Nat} (hx : VN x) (hy : VN y) : 0 < cb H k x y := cn_pos (m := 0) h.pos (by rw [bgB_iff.mpr (h.bg0 hx), bgB_iff.mpr (h.bg0 hy)]; rfl)
theorem a_cb (hL : LI na we hq C W) (h : Hs H k C) {a b : Nat} (ha : a < 15) (hb : b < 15) : nI (cb H k (pcd a) (pcd b) - 1) = btS hq a b := by
  have := one_up hL h (fun y => bgB y (pcd a) && bgB y (pcd b)) (by
    have h1 : bgB 0 (pcd a) = true := bgB_iff.mpr (by rw [← h.k0]; exact h.bg0 (pc_v ha))
    have h2 : bgB 0 (pcd b) = true := bgB_iff.mpr (by rw [← h.k0]; exact h.bg0 (pc_v hb))
    show (bgB 0 (pcd a) && bgB 0 (pcd b)) = true
    rw [h1, h2]
    rfl)
  exact pred_1 this (cb_pos h (pc_v ha) (pc_v hb))
theorem a_rb (hL : LI na we hq C W) (h : Hs H k C) {a b : Nat} (ha : a < 15) (hb : b < 15) : rdS hq a + rdS hq b - 2 * btS hq a b = nI (rb H k (pcd a) (pcd b)) := by
  have p1 := dp_pos h (pc_v ha)
  have p2 := dp_pos h (pc_v hb)
  have p3 := cb_pos h (pc_v ha) (pc_v hb)
  have p4 := cb_le H k (pcd a) (pcd b)
  have p5 := cb_le H k (pcd b) (pcd a)
  rw [cb_comm] at p5
  rw [← a_dp hL h ha, ← a_dp hL h hb, ← a_cb hL h ha hb, nI_add, show (2 : Int32) = nI 2 from rfl, q_mul, q_sub (by omega)]
  unfold rb
  congr 1
  omega
/-- the parent of a place -/
theorem par_pr (hL : LI na we hq C W) (h : Hs H k C) {p : Nat} (hp : p < 15) (hp0 : p ≠ 0) (e : hq p = 1) : k (pr k (plc H k (pcd p))) = pcd (parP hq p) ∧ parP hq p < 15 ∧ hq (parP hq p) = 1 := by
  obtain ⟨q1, q2, q3, q4⟩ := parP_p hq (hL.hn0 h) hp hp0
  have hy : parP hq p < 15 := by omega
  have hy1 := (hL.hz hy).mp q2
  obtain ⟨i1, i2⟩ := h.ixe (((hL.1 p hp).2.2.1).mp e)
  obtain ⟨j1, j2⟩ := h.ixe (((hL.1 _ hy).2.2.1).mp hy1)
  refine ⟨?_, hy, hy1⟩
  have hlt : pcd (parP hq p) < pcd p := by
    have h1 := (bgB_iff.mp q3).1
    rcases Nat.lt_or_ge (pcd (parP hq p)) (pcd p) with h2 | h2
    · exact h2
    · have := pc_inj hy hp (by omega)
      omega
  have hji : plc H k (pcd (parP hq p)) < plc H k (pcd p) := (h.en.lt j1 i1).mp (by rw [i2, j2]; exact hlt)
  rw [h.pru i1 hji (by rw [i2, j2]; exact bgB_iff.mp q3) (fun q hq1 hq2 hb => ?_), j2]
  obtain ⟨r, hr, er⟩ := hL.2 _ (h.c (show q < H by omega))
  have hr1 : hq r = 1 := ((hL.1 r hr).2.2.1).mpr (by rw [← er]; exact h.c (by omega))
  rw [i2, er] at hb
  have hne : r ≠ p := fun e2 => by
    have := h.en.1 q _ hq2 i1
    rw [er, i2, e2] at this
    omega
  have h5 := (bgB_iff.mp (q4 r hr hne ((hL.hz hr).mpr hr1) (bgB_iff.mpr hb))).1
  have h6 := h.en.1 _ q hq1 (by omega)
  rw [er, j2] at h6
  omega
theorem a_ch (hL : LI na we hq C W) (h : Hs H k C) {p : Nat} (hp : p < 15) (e : hq p = 1) : nI (ch H k (plc H k (pcd p))) = sm (fun q => if hq q = 1 then (if q ≠ 0 ∧ parP hq q = p then 1 else 0) else 0) 15 := by
  obtain ⟨i1, i2⟩ := h.ixe (((hL.1 p hp).2.2.1).mp e)
  unfold ch
  rw [nI_cn]
  have e1 : sm (fun j => if (decide (0 < j) && decide (pr k j = plc H k (pcd p))) = true then (1 : Int32) else 0) H = sm (fun j => (fun y => if y ≠ 0 ∧ k (pr k (plc H k y)) = pcd p then (1 : Int32) else 0) (k j)) H := by
    refine sm_congr (fun j hj => ?_)
    have hple := pr_le k j
    have hb : (decide (0 < j) && decide (pr k j = plc H k (pcd p))) = true ↔ (k j ≠ 0 ∧ k (pr k (plc H k (k j))) = pcd p) := by
      rw [Bool.and_eq_true, decide_eq_true_iff, decide_eq_true_iff, h.ixi hj]
      constructor
      · intro ⟨a1, a2⟩
        refine ⟨?_, by rw [a2]; exact i2⟩
        have := h.en.1 0 j a1 hj
        omega
      · intro ⟨a1, a2⟩
        refine ⟨?_, h.en.inj (by omega) i1 (by rw [a2, i2])⟩
        rcases Nat.eq_zero_or_pos j with h0 | h0
        · rw [h0, h.k0] at a1
          exact absurd rfl a1
        · exact h0
    by_cases c : k j ≠ 0 ∧ k (pr k (plc H k (k j))) = pcd p
    · rw [if_pos (hb.mpr c)]
      exact (if_pos c).symm
    · rw [if_neg (fun e2 => c (hb.mp e2))]
      exact (if_neg c).symm
  rw [e1, hsum hL h.en (fun y => if y ≠ 0 ∧ k (pr k (plc H k y)) = pcd p then (1 : Int32) else 0)]
  refine sm_congr (fun q hq15 => ?_)
  by_cases e2 : hq q = 1
  · rw [if_pos e2, if_pos e2]
    by_cases h0 : q = 0
    · subst h0
      rw [if_neg (fun h => h.1 pc_0), if_neg (fun h => h.1 rfl)]
    · obtain ⟨b1, b2, b3⟩ := par_pr hL h hq15 h0 e2
      rw [b1]
      by_cases c : parP hq q = p
      · rw [if_pos ⟨pc_pos q hq15 h0, congrArg pcd c⟩, if_pos ⟨h0, c⟩]
      · rw [if_neg (fun h => c (pc_inj b2 hp h.2)), if_neg (fun h => c h.2)]
  · rw [if_neg e2, if_neg e2]
theorem a_cst (hL : LI na we hq C W) (hT : Tn H k C N n W) : cst H k N n W = sm (fun p => if na p = 1 then we p * rdS hq p else 0) 15 := by
  unfold cst
  rw [nsum hL hT (fun y => W y * nI (dp H k y - 1))]
  refine sm_congr (fun p hp => ?_)
  by_cases e : na p = 1
  · rw [if_pos e, if_pos e, hL.ww hp e, a_dp hL hT.1 hp]
  · rw [if_neg e, if_neg e]
/-- the child of a house that has one alone -/
theorem a_child (hL : LI na we hq C W) (h : Hs H k C) {p : Nat} (hp : p < 15) (e : hq p = 1) (hn : plc H k (pcd p) + 1 < H ∧ pr k (plc H k (pcd p) + 1) = plc H k (pcd p)) (hc : ch H k (plc H k (pcd p)) ≤ 1) :
    ∃ q, q < 15 ∧ k (plc H k (pcd p) + 1) = pcd q ∧ mL_child hq (nI p) = some (nI q) := by
  obtain ⟨i1, i2⟩ := h.ixe (((hL.1 p hp).2.2.1).mp e)
  obtain ⟨n1, n2⟩ := hn
  obtain ⟨q, hq15, eq⟩ := hL.2 _ (h.c n1)
  have hq1 : hq q = 1 := ((hL.1 q hq15).2.2.1).mpr (by rw [← eq]; exact h.c n1)
  have hq0 : q ≠ 0 := fun e0 => by
    have := h.en.1 0 _ (show 0 < plc H k (pcd p) + 1 by omega) n1
    rw [eq, e0, pc_0] at this
    omega
  have ixq : plc H k (pcd q) = plc H k (pcd p) + 1 := by rw [← eq, h.ixi n1]
  obtain ⟨b1, b2, b3⟩ := par_pr hL h hq15 hq0 hq1
  have hpq : parP hq q = p := by
    rw [ixq, n2, i2] at b1
    exact (pc_inj hp b2 b1).symm
  have hlt := (parP_p hq (hL.hn0 h) hq15 hq0).1
  refine ⟨q, hq15, eq, lchild_c hq (hL.hn0 h) hp hq15 (by omega) hq1 hpq (fun r hr hr0 hr1 er => ?_)⟩
  obtain ⟨c1, c2, c3⟩ := par_pr hL h hr hr0 hr1
  obtain ⟨r1, r2⟩ := h.ixe (((hL.1 r hr).2.2.1).mp hr1)
  have hrpos : 0 < plc H k (pcd r) := by
    rcases Nat.eq_zero_or_pos (plc H k (pcd r)) with h0 | h0
    · rw [h0, h.k0] at r2
      exact absurd r2.symm (pc_pos r hr hr0)
    · exact h0
  have hpl := pr_lt k hrpos
  have e5 : pr k (plc H k (pcd r)) = plc H k (pcd p) := h.en.inj (by omega) i1 (by rw [c1, er, i2])
  have e6 := ch_uniq hc r1 n1 hrpos (by omega) e5 n2
  have : pcd r = pcd q := by rw [← r2, e6, eq]
  exact pc_inj hr hq15 this
theorem le1_ch (m : Nat) (hm : m ≤ 193) : (nI m ≤ 1) ↔ m ≤ 1 := by
  rw [show (1 : Int32) = nI 1 from rfl]
  exact nI_leI (by omega) (by decide)
theorem a_why (hL : LI na we hq C W) (hT : Tn H k C N n W) {p : Nat} (hp : p < 15) (e : hq p = 1) (q : Nat → Int32) : mL_reason q na hq (nI p) = some (why (q 0) H k W (plc H k (pcd p))) := by
  have h := hT.1
  have hH := h.le
  obtain ⟨i1, i2⟩ := h.ixe (((hL.1 p hp).2.2.1).mp e)
  unfold mL_reason
  by_cases h0 : p = 0
  · subst h0
    have : plc H k (pcd 0) = 0 := by
      have := h.ixi h.pos
      rw [h.k0] at this
      exact this
    rw [if_pos nI_0, this]
    rfl
  · have hi0 : plc H k (pcd p) ≠ 0 := fun e0 => by
      rw [e0, h.k0] at i2
      exact pc_pos p hp h0 i2.symm
    rw [if_neg (nI_ne0 (by omega) (by omega)), rd15 na hp, Option.bind_some]
    unfold why
    rw [if_neg hi0]
    by_cases e1 : na p = 1
    · have hh : hm W (k (plc H k (pcd p))) = true := by rw [i2]; exact hm_iff.mpr ((hL.wn hp).mpr e1)
      rw [if_pos e1, if_pos hh]
    · have hh : hm W (k (plc H k (pcd p))) = false := by
        rw [i2]
        rw [← Bool.not_eq_true]
        intro h1
        exact e1 ((hL.wn hp).mp (hm_iff.mp h1))
      have hcl := ch_le H k (plc H k (pcd p))
      rw [if_neg e1, if_neg (by rw [hh]; decide), lchildren_c hq (hL.hn0 h) hp, Option.bind_some, ← a_ch hL h hp e]
      by_cases c : ch H k (plc H k (pcd p)) ≤ 1
      · obtain ⟨x1, x2⟩ := hT.nx i1 hi0 hh
        obtain ⟨q9, hq15, eq, ec⟩ := a_child hL h hp e ⟨x1, x2⟩ c
        obtain ⟨b1, b2, b3⟩ := par_pr hL h hp h0 e
        rw [if_pos ((le1_ch _ (by omega)).mpr c), if_pos c, ec, Option.bind_some, lpar_c hq (hL.hn0 h) hp h0, Option.bind_some, pc_len0 q9 hq15, pc_len0 _ b2]
        have l1 := h.lbp i1 (by omega)
        have l2 := h.lbp x1 (by omega)
        have hl : plen q9 - plen (parP hq p) = lb k (plc H k (pcd p)) + lb k (plc H k (pcd p) + 1) := by
          unfold lb
          rw [x2] at l2 ⊢
          rw [← pc_ln hq15, ← pc_ln b2, ← eq, ← b1]
          omega
        have hle : plen (parP hq p) ≤ plen q9 := by
          rw [x2] at l2
          rw [← pc_ln hq15, ← pc_ln b2, ← eq, ← b1]
          omega
        rw [q_sub hle, hl]
      · rw [if_neg (fun h => c ((le1_ch _ (by omega)).mp h)), if_neg c]
end LA
