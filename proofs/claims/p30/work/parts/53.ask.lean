/-! Both sides at a place. -/
theorem pc_pre : ∀ p, p < 15 → mX7_requirePrefix_n (nI (plet p)) (nI (plen p)) = some () := by decide +kernel
theorem pc_nam : ∀ p, p < 15 → p ≠ 0 → mX7_requireName_n (nI (plet p)) (nI (plen p)) = some () := by decide +kernel
theorem pc_pre0 : ∀ p, p < 15 → mX7_requirePrefix (nI (plet p)) (nI (plen p)) = 0 := by decide +kernel
theorem pc_nam0 : ∀ p, p < 15 → p ≠ 0 → mX7_requireName (nI (plet p)) (nI (plen p)) = 0 := by decide +kernel
theorem wh4 : ∀ i, i < 4 → mX7_requireWhat_n (nI i) 4 = some () := by decide +kernel
theorem wh9 : ∀ i, i < 9 → mX7_requireWhat_n (nI i) 9 = some () := by decide +kernel
theorem wh12 : ∀ i, i < 12 → mX7_requireWhat_n (nI i) 12 = some () := by decide +kernel
theorem nI_c0 : ∀ i, i < 15 → i ≠ 0 → (nI i = 0) = False := by decide +kernel
section Ask
variable {na we hq : Nat → Int32} {H : Nat} {k : Nat → Nat} {W : Nat → Int32} {C : Nat → Prop} {N : Nat} {n : Nat → Nat}
variable {ks ws pa ca ra ni wi ho : Nat → Int32}
theorem l_rank (hL : LI na we hq C W) (hT : Tn H k C N n W) {p : Nat} (hp : p < 15) : mL_rank na (nI p) = some (nI (plc N n (pcd p))) := by rw [lrank_c na (hL.n0 hT) hp, a_rank hL hT]
theorem l_idx1 (hL : LI na we hq C W) (h : Hs H k C) {p : Nat} (hp : p < 15) (e : hq p = 1) : mL_index hq (nI p) = some (nI (plc H k (pcd p))) := by rw [lindex_c hq hp, if_pos e, a_index hL h.en]
theorem l_idx0 {p : Nat} (hp : p < 15) (e : ¬ hq p = 1) : mL_index hq (nI p) = some (-1) := by rw [lindex_c hq hp, if_neg e]
theorem l_nbl (hL : LI na we hq C W) (hT : Tn H k C N n W) {p : Nat} (hp : p < 15) : mL_below na we (nI p) 0 = some (nI (nbl N n (pcd p))) := by
  rw [lbelow_c na we hp, a_nbl hL hT]
  rfl
theorem l_wbl (hL : LI na we hq C W) (hT : Tn H k C N n W) {p : Nat} (hp : p < 15) : mL_below na we (nI p) 1 = some (wbl N n W (pcd p)) := by
  rw [lbelow_c na we hp, a_wbl hL hT]
  rfl
theorem l_ch (hL : LI na we hq C W) (h : Hs H k C) {p : Nat} (hp : p < 15) (e : hq p = 1) : mL_children hq (nI p) = some (nI (ch H k (plc H k (pcd p)))) := by rw [lchildren_c hq (hL.hn0 h) hp, a_ch hL h hp e]
theorem l_rd (hL : LI na we hq C W) (h : Hs H k C) {p : Nat} (hp : p < 15) : mL_roads hq (nI p) = some (nI (dp H k (pcd p) - 1)) := by rw [lroads_c hq hL.h01 hp, a_dp hL h hp]
theorem l_cost (hL : LI na we hq C W) (hT : Tn H k C N n W) : mL_cost na we hq = some (cst H k N n W) := by rw [lcost_c na we hq (hL.n0 hT) hL.h01, a_cst hL hT]
theorem l_rb (hL : LI na we hq C W) (h : Hs H k C) {a b : Nat} (ha : a < 15) (hb : b < 15) : mL_between hq (nI a) (nI b) = some (nI (rb H k (pcd a) (pcd b))) := by rw [lbtw_c hq hL.h01 ha hb, a_rb hL h ha hb]
theorem l_par (hL : LI na we hq C W) (h : Hs H k C) {p : Nat} (hp : p < 15) (hp0 : p ≠ 0) (e : hq p = 1) : mL_parent hq (nI p) = some (nI (parP hq p)) ∧ nI (plen p) - mL_length (nI (parP hq p)) = nI (lb k (plc H k (pcd p))) := by
  refine ⟨lpar_c hq (hL.hn0 h) hp hp0, ?_⟩
  obtain ⟨b1, b2, b3⟩ := par_pr hL h hp hp0 e
  obtain ⟨i1, i2⟩ := h.ixe (((hL.1 p hp).2.2.1).mp e)
  have hi0 : 0 < plc H k (pcd p) := by
    rcases Nat.eq_zero_or_pos (plc H k (pcd p)) with h0 | h0
    · rw [h0, h.k0] at i2
      exact absurd i2.symm (pc_pos p hp hp0)
    · exact h0
  have l1 := h.lbp i1 hi0
  rw [b1, i2, pc_ln hp, pc_ln b2] at l1
  rw [pc_len0 _ b2, q_sub (by omega)]
  unfold lb
  rw [b1, i2, pc_ln hp, pc_ln b2]
theorem lb_root (h : Hs H k C) : lb k (plc H k (pcd 0)) = 0 := by
  have : plc H k (pcd 0) = 0 := by
    have := h.ixi h.pos
    rw [h.k0] at this
    exact this
  rw [this, lb_0]
/-! The class. -/
theorem c_hof1 (hK : Kc ks ws H k W) (h : Hs H k C) {p : Nat} (hp : p < 15) (hc : C (pcd p)) : mX7_houseOf_n (nI H) ks (nI (plet p)) (nI (plen p)) = some (nI (plc H k (pcd p))) := by
  unfold mX7_houseOf_n
  rw [pc_pre p hp, Option.bind_some, pc_of hp, (index_c hK h (pc_31 hp)).1 hc, Option.bind_some]
theorem c_hof0 (hK : Kc ks ws H k W) (h : Hs H k C) {p : Nat} (hp : p < 15) (hc : ¬ C (pcd p)) : mX7_houseOf_n (nI H) ks (nI (plet p)) (nI (plen p)) = some (-1) := by
  unfold mX7_houseOf_n
  rw [pc_pre p hp, Option.bind_some, pc_of hp, (index_c hK h (pc_31 hp)).2 hc, Option.bind_some]
theorem c_cnt (hK : Kc ks ws H k W) (hS : Sv H k N n W pa ca ra ni wi ho) (hT : Tn H k C N n W) {p : Nat} (hp : p < 15) : mX7_count_n (nI H) ks ni (nI (plet p)) (nI (plen p)) = some (nI (nbl N n (pcd p))) := by
  unfold mX7_count_n
  rw [pc_pre p hp, Option.bind_some, pc_of hp, ccount_c hK hS hT (pc_v hp), Option.bind_some]
theorem c_rank (hK : Kc ks ws H k W) (hS : Sv H k N n W pa ca ra ni wi ho) (hT : Tn H k C N n W) {p : Nat} (hp : p < 15) (hp0 : p ≠ 0) : mX7_rank_n ks ni ho (nI (plet p)) (nI (plen p)) = some (nI (plc N n (pcd p))) := by
  unfold mX7_rank_n
  rw [pc_nam p hp hp0, Option.bind_some, pc_of hp, crank_c hK hS hT (pc_31 hp), Option.bind_some]
theorem c_wgt (hK : Kc ks ws H k W) (hT : Tn H k C N n W) {p : Nat} (hp : p < 15) (hp0 : p ≠ 0) : mX7_weight_n (nI H) ks ws (nI (plet p)) (nI (plen p)) = some (W (pcd p)) := by
  unfold mX7_weight_n
  rw [pc_nam p hp hp0, Option.bind_some, pc_of hp, weightOf_c hK hT.1 hT.2.2.1 (pc_31 hp), Option.bind_some]
theorem c_why1 (hK : Kc ks ws H k W) (hS : Sv H k N n W pa ca ra ni wi ho) (hT : Tn H k C N n W) {p : Nat} (hp : p < 15) (hc : C (pcd p)) (L : Int32) : mX7_reason_n (nI H) L ks ws pa ca (nI (plet p)) (nI (plen p)) = some (why L H k W (plc H k (pcd p))) := by
  have hH := hT.1.le
  obtain ⟨i1, i2⟩ := hT.1.ixe hc
  unfold mX7_reason_n
  rw [pc_pre p hp, Option.bind_some, pc_of hp, (index_c hK hT.1 (pc_31 hp)).1 hc, Option.bind_some, if_neg (q_neg (by omega)), creason_c hK hS hT i1]
theorem c_why0 (hK : Kc ks ws H k W) (h : Hs H k C) {p : Nat} (hp : p < 15) (hc : ¬ C (pcd p)) (L : Int32) : mX7_reason_n (nI H) L ks ws pa ca (nI (plet p)) (nI (plen p)) = some (-1) := by
  unfold mX7_reason_n
  rw [pc_pre p hp, Option.bind_some, pc_of hp, (index_c hK h (pc_31 hp)).2 hc, Option.bind_some, if_pos rfl]
theorem rk_ok (hS : Sv H k N n W pa ca ra ni wi ho) (hT : Tn H k C N n W) {r : Nat} (hr : r < N) : mX7_requireRank_n ni (nI r) = some () := by
  have hN := hT.2.1.2.2
  unfold mX7_requireRank_n
  rw [if_neg (nI_pos (by omega)), cnames_c hS hT.1 hT.2.1, if_pos (nI_lt hr (by omega))]
theorem c_nth (hK : Kc ks ws H k W) (hS : Sv H k N n W pa ca ra ni wi ho) (hT : Tn H k C N n W) {r : Nat} (hr : r < N) {i : Nat} (hi : i < 4) : mX7_nth_n ks ws ra ni ho (nI r) (nI i) = some (nvl H k n W r (nI i)) := by
  unfold mX7_nth_n
  rw [rk_ok hS hT hr, Option.bind_some, wh4 i hi, Option.bind_some, cnval_c hK hS hT hr]
theorem c_btw (hS : Sv H k N n W pa ca ra ni wi ho) (hT : Tn H k C N n W) {r s : Nat} (hr : r < N) (hs : s < N) : mX7_between_n pa ni ho (nI r) (nI s) = some (nI (rb H k (n r) (n s))) := by
  unfold mX7_between_n
  rw [rk_ok hS hT hr, Option.bind_some, rk_ok hS hT hs, Option.bind_some, crbet_c hS hT hr hs, Option.bind_some]
theorem hs_ok (h : Hs H k C) {i : Nat} (hi : i < H) : mX7_requireHouse_n (nI H) (nI i) = some () := by
  have hH := h.le
  unfold mX7_requireHouse_n
  rw [if_neg (nI_pos (by omega)), if_pos (nI_lt hi (by omega))]
theorem c_house (hK : Kc ks ws H k W) (hS : Sv H k N n W pa ca ra ni wi ho) (h : Hs H k C) {i : Nat} (hi : i < H) {j : Nat} (hj : j < 9) : mX7_house_n (nI H) ks ws pa ca ra ni wi (nI i) (nI j) = some (hvl H k N n W i (nI j)) := by
  unfold mX7_house_n
  rw [hs_ok h hi, Option.bind_some, wh9 j hj, Option.bind_some, chval_c hK hS h hi]
theorem c_sav (hK : Kc ks ws H k W) (hS : Sv H k N n W pa ca ra ni wi ho) (hT : Tn H k C N n W) {i : Nat} (hi : i < H) (L : Int32) : mX7_savedBy_n (nI H) L ks ws pa ca wi (nI i) = some (svl L H k N n W i) := by
  unfold mX7_savedBy_n
  rw [hs_ok hT.1 hi, Option.bind_some, csaving_c hK hS hT hi]
/-- values of a house that is at a place -/
theorem hv_c (hT : Tn H k C N n W) (hL : LI na we hq C W) {p : Nat} (hp : p < 15) (e : hq p = 1) :
    hvl H k N n W (plc H k (pcd p)) (nI 0) = nI (plet p) ∧ hvl H k N n W (plc H k (pcd p)) (nI 1) = nI (plen p) ∧ remO (nI (plet p)) (1 <<< ((3 * nI (lb k (plc H k (pcd p)))) &&& 31)) = some (hvl H k N n W (plc H k (pcd p)) (nI 2)) ∧
    hvl H k N n W (plc H k (pcd p)) (nI 3) = nI (lb k (plc H k (pcd p))) ∧ hvl H k N n W (plc H k (pcd p)) (nI 4) = nI (ch H k (plc H k (pcd p))) ∧ hvl H k N n W (plc H k (pcd p)) (nI 5) = na p ∧
    hvl H k N n W (plc H k (pcd p)) (nI 6) = nI (nbl N n (pcd p)) ∧ hvl H k N n W (plc H k (pcd p)) (nI 7) = wbl N n W (pcd p) ∧ hvl H k N n W (plc H k (pcd p)) (nI 8) = nI (dp H k (pcd p) - 1) := by
  obtain ⟨i1, i2⟩ := hT.1.ixe (((hL.1 p hp).2.2.1).mp e)
  have h8 := hT.1.lb8 i1
  refine ⟨?_, ?_, ?_, rfl, rfl, ?_, ?_, ?_, ?_⟩
  · show nI (k (plc H k (pcd p)) / bsN (lnN (k (plc H k (pcd p))))) = _
    rw [i2, pc_dv hp]
  · show nI (lnN (k (plc H k (pcd p)))) = _
    rw [i2, pc_ln hp]
  · show _ = some (nI (k (plc H k (pcd p)) / bsN (lnN (k (plc H k (pcd p)))) % 8 ^ lb k (plc H k (pcd p))))
    rw [i2, pc_dv hp]
    generalize lb k (plc H k (pcd p)) = d at h8
    have key : ∀ p, p < 15 → ∀ d, d < 9 → remO (nI (plet p)) (1 <<< ((3 * nI d) &&& 31)) = some (nI (plet p % 8 ^ d)) := by decide +kernel
    exact key p hp d (by omega)
  · show (if hm W (k (plc H k (pcd p))) then (1 : Int32) else 0) = na p
    rw [i2]
    rcases (hL.1 p hp).1 with h | h
    · rw [if_neg (by
        rw [hm_iff, hL.wn hp, h]
        decide), h]
    · rw [if_pos (hm_iff.mpr ((hL.wn hp).mpr h)), h]
  · show nI (nbl N n (k (plc H k (pcd p)))) = _
    rw [i2]
  · show wbl N n W (k (plc H k (pcd p))) = _
    rw [i2]
  · show nI (dp H k (k (plc H k (pcd p))) - 1) = _
    rw [i2]
/-- values of a name that is at a place -/
theorem nv_c (hT : Tn H k C N n W) (hL : LI na we hq C W) {p : Nat} (hp : p < 15) (e : na p = 1) : plc N n (pcd p) < N ∧ n (plc N n (pcd p)) = pcd p ∧
    nvl H k n W (plc N n (pcd p)) (nI 0) = nI (plet p) ∧ nvl H k n W (plc N n (pcd p)) (nI 1) = nI (plen p) ∧ nvl H k n W (plc N n (pcd p)) (nI 2) = we p ∧ nvl H k n W (plc N n (pcd p)) (nI 3) = nI (dp H k (pcd p) - 1) := by
  obtain ⟨r, hr, er⟩ := hT.2.1.1.2.2 _ ((hL.wn hp).mpr e)
  have hx := hT.2.1.1.idx hr
  rw [er] at hx
  rw [hx]
  refine ⟨hr, er, ?_, ?_, ?_, ?_⟩
  · show nI (n r / bsN (lnN (n r))) = _
    rw [er, pc_dv hp]
  · show nI (lnN (n r)) = _
    rw [er, pc_ln hp]
  · show W (n r) = _
    rw [er, hL.ww hp e]
  · show nI (dp H k (n r) - 1) = _
    rw [er]
end Ask
