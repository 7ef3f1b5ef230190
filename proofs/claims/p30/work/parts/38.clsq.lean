/-! What the class answers, over a surveyed town. -/
theorem why_le (L : Int32) (H : Nat) (k : Nat → Nat) (W : Nat → Int32) (i : Nat) : (why L H k W i ≤ 0 ↔ why L H k W i = 0) := by
  unfold why
  repeat' split
  all_goals decide
theorem nbl_0 {N n W} (hn : Ns N n W) : nbl N n 0 = N := cn_true (fun r hr => bgB_iff.mpr (bg_0 (hn.2.1 _ (hn.1.2.1 r hr))))
section ClsQ
variable {ks ws pa ca ra ni wi ho : Nat → Int32} {H : Nat} {k : Nat → Nat} {W : Nat → Int32} {C : Nat → Prop} {N : Nat} {n : Nat → Nat}
theorem Sv.apa (hS : Sv H k N n W pa ca ra ni wi ho) (h : Hs H k C) {i : Nat} (hi : i < H) : mX3_at 193 pa (nI i) = nI (pr k i) := by
  have := h.le
  rw [at_nI pa (by omega) (by omega), (hS.1 i hi).1]
theorem Sv.aca (hS : Sv H k N n W pa ca ra ni wi ho) (h : Hs H k C) {i : Nat} (hi : i < H) : mX3_at 193 ca (nI i) = nI (ch H k i) := by
  have := h.le
  rw [at_nI ca (by omega) (by omega), (hS.1 i hi).2.1]
theorem Sv.ara (hS : Sv H k N n W pa ca ra ni wi ho) (h : Hs H k C) {i : Nat} (hi : i < H) : mX3_at 193 ra (nI i) = nI (dp H k (k i) - 1) := by
  have := h.le
  rw [at_nI ra (by omega) (by omega), (hS.1 i hi).2.2.1]
theorem Sv.ani (hS : Sv H k N n W pa ca ra ni wi ho) (h : Hs H k C) {i : Nat} (hi : i < H) : mX3_at 193 ni (nI i) = nI (nbl N n (k i)) := by
  have := h.le
  rw [at_nI ni (by omega) (by omega), (hS.1 i hi).2.2.2.1]
theorem Sv.awi (hS : Sv H k N n W pa ca ra ni wi ho) (h : Hs H k C) {i : Nat} (hi : i < H) : mX3_at 193 wi (nI i) = wbl N n W (k i) := by
  have := h.le
  rw [at_nI wi (by omega) (by omega), (hS.1 i hi).2.2.2.2]
theorem Sv.aho (hS : Sv H k N n W pa ca ra ni wi ho) (hn : Ns N n W) {r : Nat} (hr : r < N) : mX3_at 24 ho (nI r) = nI (plc H k (n r)) := by
  have := hn.2.2
  rw [at_nI ho (by omega) (by omega), hS.2 r hr]
theorem cnames_c (hS : Sv H k N n W pa ca ra ni wi ho) (h : Hs H k C) (hn : Ns N n W) : mX5_names ni = nI N := by
  unfold mX5_names
  rw [show (0 : Int32) = nI 0 from rfl, hS.ani h h.pos, h.k0, nbl_0 hn]
theorem creason_c (hK : Kc ks ws H k W) (hS : Sv H k N n W pa ca ra ni wi ho) (hT : Tn H k C N n W) {i : Nat} (hi : i < H) (L : Int32) : mX5_reasonToStay L ks ws pa ca (nI i) = why L H k W i := by
  have h := hT.1
  have hH := h.le
  unfold mX5_reasonToStay why
  by_cases h0 : i = 0
  · subst h0
    rw [if_pos nI_0, if_pos rfl]
  rw [if_neg (nI_ne0 (by omega) (by omega)), if_neg h0, isHome_c hK h hi]
  by_cases h1 : hm W (k i) = true
  · rw [if_neg (by rw [ite01, h1]; decide), if_pos h1]
  · obtain ⟨hx1, hx2⟩ := hT.nx hi h0 (by rw [← Bool.not_eq_true]; exact h1)
    have hc := ch_le H k i
    rw [if_pos ((ite01 _).mpr (by rw [← Bool.not_eq_true]; exact h1)), if_neg h1, hS.aca h hi]
    by_cases h2 : ch H k i ≤ 1
    · rw [if_pos (show nI (ch H k i) ≤ 1 from nI_le (b := 1) h2 (by omega)), if_pos h2]
      have e : mX5_labelBehindMove ks pa (nI i) = nI (lb k i + lb k (i + 1)) := by
        have l1 := h.lbp hi (by omega)
        have l2 := h.lbp hx1 (by omega)
        have hpl := pr_le k i
        rw [hx2] at l2
        unfold mX5_labelBehindMove mX5_lengthFromParent
        rw [nI_1, hK.key h hx1, hS.apa h hi, hK.key h (by omega), len_c, len_c, q_sub (by omega)]
        unfold lb
        rw [hx2]
        congr 1
        omega
      rw [e]
    · rw [if_neg (show ¬ nI (ch H k i) ≤ 1 from nI_ge (a := 1) (by omega) (by omega)), if_neg h2]
theorem csaving_c (hK : Kc ks ws H k W) (hS : Sv H k N n W pa ca ra ni wi ho) (hT : Tn H k C N n W) {i : Nat} (hi : i < H) (L : Int32) : mX5_saving L ks ws pa ca wi (nI i) = svl L H k N n W i := by
  unfold mX5_saving svl
  rw [creason_c hK hS hT hi, hS.awi hT.1 hi]
  by_cases h1 : why L H k W i = 0
  · rw [if_pos h1, if_pos ((why_le _ _ _ _ _).mpr h1)]
  · rw [if_neg h1, if_neg (fun h2 => h1 ((why_le _ _ _ _ _).mp h2))]
theorem cbest_c (hK : Kc ks ws H k W) (hS : Sv H k N n W pa ca ra ni wi ho) (hT : Tn H k C N n W) (L : Int32) : mX5_bestToMove (nI H) L ks ws pa ca wi = some (bsf (svl L H k N n W) H).1 := by
  have hH := hT.1.le
  obtain ⟨t, ht, e⟩ := lpI (fun n i (s : Int32 × Int32) => mX5_bestToMove_L6 (nI H) L ks ws pa ca wi n s.1 s.2 (nI i)) H (fun i s => s = bsf (svl L H k N n W) i) (fun t => t = ((bsf (svl L H k N n W) H).1, (bsf (svl L H k N n W) H).2, nI H))
    (fun m i s hi hI => by
      refine ⟨_, rfl, ?_⟩
      subst hI
      show mX5_bestToMove_L6 (nI H) L ks ws pa ca wi (m + 1) _ _ (nI i) = mX5_bestToMove_L6 (nI H) L ks ws pa ca wi m (if _ ≤ _ then _ else nI i) (if _ ≤ _ then _ else _) _
      rw [mX5_bestToMove_L6, if_neg (nI_ge hi (by omega)), csaving_c hK hS hT hi, nI_1])
    (fun m s hI => by
      refine ⟨_, rfl, ?_⟩
      subst hI
      show mX5_bestToMove_L6 (nI H) L ks ws pa ca wi (m + 1) _ _ (nI H) = _
      rw [mX5_bestToMove_L6, if_pos (nI_le (Nat.le_refl _) (by omega))])
    H FU 0 (-1, -1) (by omega) (by unfold FU; omega) rfl
  rw [ht] at e
  unfold mX5_bestToMove
  rw [show mX5_bestToMove_L6 (nI H) L ks ws pa ca wi FU (-1) (-1) 0 = _ from e]
  rfl
theorem clabel_c (hK : Kc ks ws H k W) (hS : Sv H k N n W pa ca ra ni wi ho) (h : Hs H k C) {i : Nat} (hi : i < H) : mX5_labelLength ks pa (nI i) = nI (lb k i) := by
  have hpl := pr_le k i
  unfold mX5_labelLength mX5_lengthFromParent
  rw [hK.key h hi, hS.apa h hi, hK.key h (by omega), len_c, len_c]
  unfold lb
  rcases Nat.eq_zero_or_pos i with h0 | h0
  · subst h0
    rw [pr_0, q_sub (Nat.le_refl _)]
  · have l1 := h.lbp hi h0
    rw [q_sub (by omega)]
theorem cletl_c (hK : Kc ks ws H k W) (hS : Sv H k N n W pa ca ra ni wi ho) (h : Hs H k C) : mX5_labelLetters (nI H) ks pa = some (sm (fun j => nI (lb k j)) H) := by
  have hH := h.le
  have e := lpS (fun n a j => mX5_labelLetters_L4 (nI H) ks pa n a j) H (fun j => nI (lb k j)) 1 (fun m a j h1 hj => by
    show mX5_labelLetters_L4 (nI H) ks pa (m + 1) a (nI j) = mX5_labelLetters_L4 (nI H) ks pa m _ _
    rw [mX5_labelLetters_L4, if_neg (nI_ge hj (by omega)), clabel_c hK hS h hj, nI_1]) (fun m a => by
    show mX5_labelLetters_L4 (nI H) ks pa (m + 1) a (nI H) = _
    rw [mX5_labelLetters_L4, if_pos (nI_le (Nat.le_refl _) (by omega))]) 0 FU (by unfold FU; omega) h.pos
  rw [show (0 : Int32) + sm (fun j => nI (lb k j)) 1 = 0 by
    rw [sm_s, lb_0]; rfl, Int32.zero_add] at e
  unfold mX5_labelLetters
  rw [show mX5_labelLetters_L4 (nI H) ks pa FU 0 1 = _ from e]
  rfl
theorem max_le (a b : Int32) : (if a < b then b else a) = (if b ≤ a then a else b) := by
  by_cases h : a < b
  · rw [if_pos h, if_neg (Int32.not_le.mpr h)]
  · rw [if_neg h, if_pos (Int32.not_lt.mp h)]
theorem clong_c (hK : Kc ks ws H k W) (hS : Sv H k N n W pa ca ra ni wi ho) (h : Hs H k C) : mX5_longestLabel (nI H) ks pa = some (mxf (fun j => nI (lb k j)) H) := by
  have hH := h.le
  obtain ⟨t, ht, e⟩ := lpI (fun n i (s : Int32) => mX5_longestLabel_L4 (nI H) ks pa n s (nI i)) H (fun i s => s = mxf (fun j => nI (lb k j)) i) (fun t => t = (mxf (fun j => nI (lb k j)) H, nI H))
    (fun m i s hi hI => by
      refine ⟨_, rfl, ?_⟩
      subst hI
      show mX5_longestLabel_L4 (nI H) ks pa (m + 1) _ (nI i) = mX5_longestLabel_L4 (nI H) ks pa m (if nI (lb k i) ≤ mxf (fun j => nI (lb k j)) i then mxf (fun j => nI (lb k j)) i else nI (lb k i)) _
      rw [mX5_longestLabel_L4, if_neg (nI_ge hi (by omega)), clabel_c hK hS h hi, max_le, nI_1])
    (fun m s hI => by
      refine ⟨_, rfl, ?_⟩
      subst hI
      show mX5_longestLabel_L4 (nI H) ks pa (m + 1) _ (nI H) = _
      rw [mX5_longestLabel_L4, if_pos (nI_le (Nat.le_refl _) (by omega))])
    (H - 1) FU 1 0 (by have := h.pos; omega) (by unfold FU; omega) (by
      show _ = (if nI (lb k 0) ≤ 0 then (0 : Int32) else nI (lb k 0))
      rw [lb_0]
      rfl)
  rw [ht] at e
  unfold mX5_longestLabel
  rw [show mX5_longestLabel_L4 (nI H) ks pa FU 0 1 = _ from e]
  rfl
/-- the home of a name -/
theorem Tn.hom (hT : Tn H k C N n W) {r : Nat} (hr : r < N) : plc H k (n r) < H ∧ k (plc H k (n r)) = n r := hT.1.ixe (hT.2.2.1 _ (hT.2.1.1.2.1 r hr))
theorem croad_c (hS : Sv H k N n W pa ca ra ni wi ho) (hT : Tn H k C N n W) {r : Nat} (hr : r < N) : mX3_at 193 ra (mX3_at 24 ho (nI r)) = nI (dp H k (n r) - 1) := by
  obtain ⟨h1, h2⟩ := hT.hom hr
  rw [hS.aho hT.2.1 hr, hS.ara hT.1 h1, h2]
theorem cwgt_c (hK : Kc ks ws H k W) (hS : Sv H k N n W pa ca ra ni wi ho) (hT : Tn H k C N n W) {r : Nat} (hr : r < N) : mX3_at 193 ws (mX3_at 24 ho (nI r)) = W (n r) := by
  obtain ⟨h1, h2⟩ := hT.hom hr
  rw [hS.aho hT.2.1 hr, hK.wgt hT.1 h1, h2]
theorem ckey_c (hK : Kc ks ws H k W) (hS : Sv H k N n W pa ca ra ni wi ho) (hT : Tn H k C N n W) {r : Nat} (hr : r < N) : mX3_at 193 ks (mX3_at 24 ho (nI r)) = nI (n r) := by
  obtain ⟨h1, h2⟩ := hT.hom hr
  rw [hS.aho hT.2.1 hr, hK.key hT.1 h1, h2]
theorem cway_c (hS : Sv H k N n W pa ca ra ni wi ho) (hT : Tn H k C N n W) : mX5_longestWay ra ni ho = some (mxf (fun r => nI (dp H k (n r) - 1)) N) := by
  have hN := hT.2.1.2.2
  obtain ⟨t, ht, e⟩ := lpI (fun n i (s : Int32) => mX5_longestWay_L4 ni ra ho n s (nI i)) N (fun i s => s = mxf (fun r => nI (dp H k (n r) - 1)) i) (fun t => t = (mxf (fun r => nI (dp H k (n r) - 1)) N, nI N))
    (fun m i s hi hI => by
      refine ⟨_, rfl, ?_⟩
      subst hI
      show mX5_longestWay_L4 ni ra ho (m + 1) _ (nI i) = mX5_longestWay_L4 ni ra ho m (if nI (dp H k (n i) - 1) ≤ mxf (fun r => nI (dp H k (n r) - 1)) i then mxf (fun r => nI (dp H k (n r) - 1)) i else nI (dp H k (n i) - 1)) _
      rw [mX5_longestWay_L4, cnames_c hS hT.1 hT.2.1, if_neg (nI_ge hi (by omega)), croad_c hS hT hi, max_le, nI_1])
    (fun m s hI => by
      refine ⟨_, rfl, ?_⟩
      subst hI
      show mX5_longestWay_L4 ni ra ho (m + 1) _ (nI N) = _
      rw [mX5_longestWay_L4, cnames_c hS hT.1 hT.2.1, if_pos (nI_le (Nat.le_refl _) (by omega))])
    N FU 0 0 (by omega) (by unfold FU; omega) rfl
  rw [ht] at e
  unfold mX5_longestWay
  rw [show mX5_longestWay_L4 ni ra ho FU 0 0 = _ from e]
  rfl
theorem ccost_c (hK : Kc ks ws H k W) (hS : Sv H k N n W pa ca ra ni wi ho) (hT : Tn H k C N n W) : mX5_cost ws ra ni ho = some (cst H k N n W) := by
  have hN := hT.2.1.2.2
  have e := lpS0 (fun n x i => mX5_cost_L4 ni ws ho ra n x i) N (fun r => W (n r) * nI (dp H k (n r) - 1)) (fun m x i hi => by
    show mX5_cost_L4 ni ws ho ra (m + 1) x (nI i) = mX5_cost_L4 ni ws ho ra m _ _
    rw [mX5_cost_L4, cnames_c hS hT.1 hT.2.1, if_neg (nI_ge hi (by omega)), cwgt_c hK hS hT hi, croad_c hS hT hi, nI_1]) (fun m x => by
    show mX5_cost_L4 ni ws ho ra (m + 1) x (nI N) = _
    rw [mX5_cost_L4, cnames_c hS hT.1 hT.2.1, if_pos (nI_le (Nat.le_refl _) (by omega))]) 0 FU (by unfold FU; omega)
  unfold mX5_cost
  rw [show mX5_cost_L4 ni ws ho ra FU 0 0 = _ from e, Option.bind_some, Int32.zero_add]
  rfl
theorem cnval_c (hK : Kc ks ws H k W) (hS : Sv H k N n W pa ca ra ni wi ho) (hT : Tn H k C N n W) {r : Nat} (hr : r < N) (p : Int32) : mX5_nameValue ks ws ra ho (nI r) p = nvl H k n W r p := by
  have hv := hT.2.1.2.1 _ (hT.2.1.1.2.1 r hr)
  unfold mX5_nameValue nvl
  rw [ckey_c hK hS hT hr, cwgt_c hK hS hT hr, croad_c hS hT hr, let_c hv.len hv.l31, len_c]
theorem chval_c (hK : Kc ks ws H k W) (hS : Sv H k N n W pa ca ra ni wi ho) (h : Hs H k C) {i : Nat} (hi : i < H) (p : Int32) : mX5_houseValue ks ws pa ca ra ni wi (nI i) p = hvl H k N n W i p := by
  have hv := h.v hi
  unfold mX5_houseValue hvl
  rw [hK.key h hi, let_c hv.len hv.l31, len_c, clabel_c hK hS h hi, last_c hv.len hv.l31 (h.lb8 hi), hS.aca h hi, isHome_c hK h hi, hS.ani h hi, hS.awi h hi, hS.ara h hi]
  have e2 : (if (if hm W (k i) = true then (1 : Int32) else 0) = 0 then (0 : Int32) else 1) = (if hm W (k i) then 1 else 0) := by cases hm W (k i) <;> decide
  rw [e2]
theorem crank_c (hK : Kc ks ws H k W) (hS : Sv H k N n W pa ca ra ni wi ho) (hT : Tn H k C N n W) {x : Nat} (hx : x < 2 ^ 31) : mX5_namesBefore ks ni ho (nI x) = some (nI (plc N n x)) := by
  have hN := hT.2.1.2.2
  have hp := plc_le N n x
  obtain ⟨h1, h2⟩ := hT.2.1.1.place x
  obtain ⟨t, ht, e⟩ := lpI (fun m i (_ : Unit) => mX5_namesBefore_L2 ni (nI x) ks ho m (nI i)) (plc N n x) (fun _ _ => True) (fun t => t = nI (plc N n x))
    (fun m i s hi _ => by
      refine ⟨s, trivial, ?_⟩
      show mX5_namesBefore_L2 ni (nI x) ks ho (m + 1) (nI i) = _
      rw [mX5_namesBefore_L2, cnames_c hS hT.1 hT.2.1, if_neg (nI_ge (by omega) (by omega)), ckey_c hK hS hT (by omega), if_neg (nI_ge (h1 i hi) hx), nI_1])
    (fun m s _ => by
      refine ⟨_, rfl, ?_⟩
      show mX5_namesBefore_L2 ni (nI x) ks ho (m + 1) (nI (plc N n x)) = _
      rw [mX5_namesBefore_L2, cnames_c hS hT.1 hT.2.1]
      rcases Nat.lt_or_ge (plc N n x) N with h3 | h3
      · rw [if_neg (nI_ge h3 (by omega)), ckey_c hK hS hT h3, if_pos (nI_le (h2 _ (Nat.le_refl _) h3) (hT.2.1.2.1 _ (hT.2.1.1.2.1 _ h3)).l31)]
      · rw [if_pos (nI_le h3 (by omega))])
    (plc N n x) FU 0 () (by omega) (by unfold FU; omega) trivial
  unfold mX5_namesBefore
  rw [show mX5_namesBefore_L2 ni (nI x) ks ho FU 0 = _ from e, ht]
  rfl
theorem ccount_c (hK : Kc ks ws H k W) (hS : Sv H k N n W pa ca ra ni wi ho) (hT : Tn H k C N n W) {x : Nat} (hx : VN x) : mX5_namesWith (nI H) ks ni (nI x) = some (nI (nbl N n x)) := by
  have hTT := hT
  obtain ⟨h, hn, hC, hW0, hD, hM⟩ := hT
  have hH := h.le
  unfold mX5_namesWith
  by_cases h1 : ∃ j, j < H ∧ bgN x (k j)
  · obtain ⟨h2, h3⟩ := h.fw.mp h1
    rw [(first_c hK h hx).1 h1, Option.bind_some, if_neg (q_neg (by omega)), hS.ani h h2]
    congr 2
    refine cn_congr (fun r hr => ?_)
    have hv := hn.2.1 _ (hn.1.2.1 r hr)
    rw [Bool.eq_iff_iff, bgB_iff, bgB_iff]
    exact ⟨fun h4 => bg_trans hx (h.v h2) hv h3 h4, fun h4 => hTT.fst hx h2 h3 (hC _ (hn.1.2.1 r hr)) h4⟩
  · rw [(first_c hK h hx).2 h1, Option.bind_some, if_pos rfl]
    have : nbl N n x = 0 := cn_false (fun r hr => by
      rw [bgB_f]
      intro h2
      obtain ⟨h3, h4⟩ := hTT.hom hr
      exact h1 ⟨_, h3, by rw [h4]; exact h2⟩)
    rw [this]
    rfl
theorem cb_self (H : Nat) (k : Nat → Nat) (x : Nat) : cb H k x x = dp H k x := cn_congr (fun i _ => Bool.and_self _)
theorem cb_comm (H : Nat) (k : Nat → Nat) (x y : Nat) : cb H k x y = cb H k y x := cn_congr (fun i _ => Bool.and_comm _ _)
theorem cb_le (H : Nat) (k : Nat → Nat) (x y : Nat) : cb H k x y ≤ dp H k x := cn_imp (fun i hi hx => by
    rw [Bool.and_eq_true] at hx
    exact hx.1)
theorem cb_pr (h : Hs H k C) {a b : Nat} (ha : a < H) (hb : b < H) (hab : b < a) : cb H k (k (pr k a)) (k b) = cb H k (k a) (k b) := by
  have hpl := pr_lt k (show 0 < a by omega)
  refine cn_congr (fun j hj => ?_)
  rw [Bool.eq_iff_iff, Bool.and_eq_true, Bool.and_eq_true, bgB_iff, bgB_iff, bgB_iff]
  constructor
  · intro ⟨h1, h2⟩
    exact ⟨bg_trans (h.v hj) (h.v (by omega)) (h.v ha) h1 (h.prb ha), h2⟩
  · intro ⟨h1, h2⟩
    have := h.ij hj hb h2
    exact ⟨(h.pri ha (by omega)).mp h1, h2⟩
theorem crbet_c (hS : Sv H k N n W pa ca ra ni wi ho) (hT : Tn H k C N n W) {r q : Nat} (hr : r < N) (hq : q < N) : mX5_roadsBetween pa ho (nI r) (nI q) = some (nI (rb H k (n r) (n q))) := by
  have h := hT.1
  have hH := h.le
  have key : ∀ d m a b w, a < H → b < H → rb H k (k a) (k b) = d → w + d ≤ 16 → d < m → ∃ x y, mX5_roadsBetween_L22 pa m (nI a) (nI b) (nI w) = some (x, y, nI (w + d)) := by
    intro d
    induction d with
    | zero =>
      intro m a b w ha hb hd hw hm
      obtain ⟨m, rfl⟩ : ∃ z, m = z + 1 := ⟨m - 1, by omega⟩
      have : a = b := by
        rcases Nat.lt_trichotomy a b with h1 | h1 | h1
        · exfalso
          have e1 := cb_pr h hb ha h1
          have e2 := dp_s h hb (by omega)
          have e3 := cb_le H k (k (pr k b)) (k a)
          have e4 := cb_le H k (k a) (k (pr k b))
          rw [cb_comm H k (k a)] at e4
          unfold rb at hd
          rw [cb_comm H k (k a)] at hd
          omega
        · exact h1
        · exfalso
          have e1 := cb_pr h ha hb h1
          have e2 := dp_s h ha (by omega)
          have e3 := cb_le H k (k (pr k a)) (k b)
          have e4 := cb_le H k (k b) (k (pr k a))
          rw [cb_comm H k (k b)] at e4
          unfold rb at hd
          omega
      subst this
      exact ⟨nI a, nI a, by rw [mX5_roadsBetween_L22, if_pos rfl]; rfl⟩
    | succ d ih =>
      intro m a b w ha hb hd hw hm
      obtain ⟨m, rfl⟩ : ∃ z, m = z + 1 := ⟨m - 1, by omega⟩
      have hne : a ≠ b := by
        intro e
        subst e
        unfold rb at hd
        rw [cb_self] at hd
        omega
      rw [mX5_roadsBetween_L22, if_neg (fun e => hne ((nI_eq (by omega) (by omega)).mp e)), if_neg (show ¬ (16 : Int32) ≤ nI w from nI_ge (b := 16) (by omega) (by omega)), nI_1]
      rcases Nat.lt_or_ge b a with h1 | h1
      · have hpl := pr_lt k (show 0 < a by omega)
        rw [if_neg (nI_ge h1 (by omega)), if_neg (nI_ge h1 (by omega)), hS.apa h ha]
        have e1 := cb_pr h ha hb h1
        have e2 := dp_s h ha (by omega)
        have e3 := cb_le H k (k (pr k a)) (k b)
        have e4 := cb_le H k (k b) (k (pr k a))
        rw [cb_comm H k (k b)] at e4
        obtain ⟨x, y, e⟩ := ih m (pr k a) b (w + 1) (by omega) hb (by unfold rb at hd ⊢; omega) (by omega) (by omega)
        exact ⟨x, y, by rw [e]; congr 4; omega⟩
      · have h2 : a < b := by omega
        have hpl := pr_lt k (show 0 < b by omega)
        rw [if_pos (nI_le h1 (by omega)), if_pos (nI_le h1 (by omega)), hS.apa h hb]
        have e1 := cb_pr h hb ha h2
        have e2 := dp_s h hb (by omega)
        have e3 := cb_le H k (k (pr k b)) (k a)
        have e4 := cb_le H k (k a) (k (pr k b))
        rw [cb_comm H k (k a)] at e4
        obtain ⟨x, y, e⟩ := ih m a (pr k b) (w + 1) ha (by omega) (by unfold rb at hd ⊢; rw [cb_comm H k (k a)] at hd ⊢; omega) (by omega) (by omega)
        exact ⟨x, y, by rw [e]; congr 4; omega⟩
  obtain ⟨a1, a2⟩ := hT.hom hr
  obtain ⟨b1, b2⟩ := hT.hom hq
  have l1 := dp_len h _ a1
  have l2 := dp_len h _ b1
  have l3 := (h.v a1).len
  have l4 := (h.v b1).len
  have c1 : 0 < cb H k (k (plc H k (n r))) (k (plc H k (n q))) := cn_pos (m := 0) h.pos (by rw [bgB_iff.mpr (h.bg0 (h.v a1)), bgB_iff.mpr (h.bg0 (h.v b1))]; rfl)
  obtain ⟨x, y, e⟩ := key _ FU _ _ 0 a1 b1 rfl (by unfold rb; omega) (by unfold rb FU; omega)
  unfold mX5_roadsBetween
  rw [hS.aho hT.2.1 hr, hS.aho hT.2.1 hq, show mX5_roadsBetween_L22 pa FU (nI (plc H k (n r))) (nI (plc H k (n q))) 0 = _ from e, a2, b2, Nat.zero_add]
  rfl
/-- each road is walked twice -/
theorem tour_2 (hT : Tn H k C N n W) : trl H k N n = 2 * (nI H - 1) := by
  have hTT := hT
  obtain ⟨h, hn, hC, hW0, hD, hM⟩ := hT
  have hH := h.le
  have hpos := h.pos
  have hv : ∀ r, r < N → VN (n r) := fun r hr => hn.2.1 _ (hn.1.2.1 r hr)
  let U : Nat → Nat := fun M => cn (fun j => decide (0 < j) && decide (0 < cn (fun r => bgB (k j) (n r)) M)) H
  have dpU : ∀ r, r < N → dp H k (n r) - 1 = cn (fun j => decide (0 < j) && bgB (k j) (n r)) H := by
    intro r hr
    have e1 : cn (fun j => decide (j = 0)) H = 1 := cn_one (m := 0) hpos (by simp) (fun j _ hj => by simp [hj])
    have e : dp H k (n r) = cn (fun j => decide (0 < j) && bgB (k j) (n r)) H + cn (fun j => decide (j = 0)) H := by
      refine cn_or (fun j hj => ?_) (fun j hj hb => ?_)
      · rcases Nat.eq_zero_or_pos j with h0 | h0
        · subst h0
          rw [bgB_iff.mpr (h.bg0 (hv r hr))]
          rfl
        · rw [decide_eq_true h0, decide_eq_false (show ¬ j = 0 by omega), Bool.true_and, Bool.or_false]
      · rw [Bool.and_eq_true, decide_eq_true_iff] at hb
        exact decide_eq_false (by omega)
    omega
  have step : ∀ M, 0 < M → M < N → (dp H k (n M) - 1) + rb H k (n (M - 1)) (n M) = (dp H k (n (M - 1)) - 1) + 2 * (U (M + 1) - U M) ∧ U M ≤ U (M + 1) := by
    intro M h0 hM'
    have d1 := dp_pos h (hv M hM')
    have d2 := dp_pos h (hv (M - 1) (by omega))
    have e1 : U (M + 1) + cb H k (n M) (n (M - 1)) = U M + dp H k (n M) := by
      have u1 : U (M + 1) = U M + cn (fun j => (decide (0 < j) && bgB (k j) (n M)) && !decide (0 < cn (fun r => bgB (k j) (n r)) M)) H := by
        refine cn_or (fun j hj => ?_) (fun j hj hb => ?_)
        · rw [cn_s]
          rcases Nat.eq_zero_or_pos j with h1 | h1
          · subst h1; rfl
          · rw [decide_eq_true h1, Bool.true_and, Bool.true_and, Bool.true_and]
            generalize cn (fun r => bgB (k j) (n r)) M = c
            by_cases h2 : 0 < c
            · rw [decide_eq_true h2, decide_eq_true (by omega)]
              rfl
            · have : c = 0 := by omega
              subst this
              cases bgB (k j) (n M) <;> rfl
        · rw [Bool.and_eq_true] at hb
          rw [hb.2]
          simp
      have u2 : dp H k (n M) = cb H k (n M) (n (M - 1)) + cn (fun j => (decide (0 < j) && bgB (k j) (n M)) && !decide (0 < cn (fun r => bgB (k j) (n r)) M)) H := by
        have iff1 : ∀ j, j < H → bgB (k j) (n M) = true → (0 < cn (fun r => bgB (k j) (n r)) M ↔ bgB (k j) (n (M - 1)) = true) := by
          intro j hj hb
          constructor
          · intro h2
            obtain ⟨r, hr, hb2⟩ := cn_ex h2
            rw [bgB_iff] at hb hb2 ⊢
            refine bg_mid hb ?_ (Nat.le_of_lt (hn.1.1 _ _ (by omega) hM'))
            exact Nat.le_trans hb2.1 ((hn.1.le (by omega) (by omega)).mpr (by omega))
          · intro h2
            exact cn_pos (m := M - 1) (by omega) h2
        refine cn_or (fun j hj => ?_) (fun j hj hb => ?_)
        · by_cases hb : bgB (k j) (n M) = true
          · have i1 := iff1 j hj hb
            rw [hb, Bool.true_and, Bool.and_true]
            rcases Nat.eq_zero_or_pos j with h1 | h1
            · subst h1
              rw [bgB_iff.mpr (h.bg0 (hv (M - 1) (by omega)))]
              rfl
            · rw [decide_eq_true h1, Bool.true_and]
              by_cases h2 : bgB (k j) (n (M - 1)) = true
              · rw [h2]; rfl
              · rw [(Bool.not_eq_true _).mp h2, decide_eq_false (fun h3 => h2 (i1.mp h3))]
                rfl
          · rw [(Bool.not_eq_true _).mp hb, Bool.and_false]
            rfl
        · rw [Bool.and_eq_true] at hb
          have i1 := (iff1 j hj hb.1).mpr hb.2
          rw [decide_eq_true i1]
          simp
      omega
    have c1 := cb_le H k (n M) (n (M - 1))
    have c2 := cb_le H k (n (M - 1)) (n M)
    rw [cb_comm] at c2
    have e3 : rb H k (n (M - 1)) (n M) = dp H k (n (M - 1)) + dp H k (n M) - 2 * cb H k (n M) (n (M - 1)) := by
      unfold rb
      rw [cb_comm]
    constructor <;> omega
  have key : ∀ M, M + 1 ≤ N → nI (dp H k (n 0) - 1) + nI (dp H k (n M) - 1) + sm (fun r => if r = 0 then 0 else nI (rb H k (n (r - 1)) (n r))) (M + 1) = nI (2 * U (M + 1)) := by
    intro M
    induction M with
    | zero =>
      intro h0
      have : U 1 = dp H k (n 0) - 1 := by
        rw [dpU 0 (by omega)]
        refine cn_congr (fun j hj => ?_)
        rw [cn_s]
        show (decide (0 < j) && decide (0 < 0 + _)) = _
        cases bgB (k j) (n 0) <;> simp
      show nI (dp H k (n 0) - 1) + nI (dp H k (n 0) - 1) + (0 + 0) = _
      rw [this, nI_add, Int32.add_zero, Int32.add_zero]
      congr 1
      omega
    | succ M ih =>
      intro h0
      obtain ⟨s1, s2⟩ := step (M + 1) (by omega) (by omega)
      rw [sm_s, if_neg (by omega)]
      have i1 := ih (by omega)
      generalize sm (fun r => if r = 0 then 0 else nI (rb H k (n (r - 1)) (n r))) (M + 1) = s at *
      rw [Nat.add_sub_cancel] at s1 ⊢
      have a1 : nI (dp H k (n 0) - 1) + nI (dp H k (n (M + 1)) - 1) + (s + nI (rb H k (n M) (n (M + 1)))) = nI (dp H k (n 0) - 1) + s + (nI (dp H k (n (M + 1)) - 1) + nI (rb H k (n M) (n (M + 1)))) := by
        simp only [Int32.add_assoc]
        congr 1
        rw [← Int32.add_assoc, Int32.add_comm _ s, Int32.add_assoc]
      have a2 : nI (dp H k (n 0) - 1) + s + (nI (dp H k (n M) - 1) + nI (2 * (U (M + 1 + 1) - U (M + 1)))) = nI (dp H k (n 0) - 1) + nI (dp H k (n M) - 1) + s + nI (2 * (U (M + 1 + 1) - U (M + 1))) := by
        simp only [Int32.add_assoc]
        congr 1
        rw [← Int32.add_assoc, Int32.add_comm s, Int32.add_assoc]
      rw [a1, nI_add, s1, ← nI_add, a2, i1, nI_add]
      congr 1
      omega
  have e2 : (2 : Int32) * (nI H - 1) = nI (2 * (H - 1)) := by
    rw [show nI H - 1 = nI (H - 1) by rw [← nI_pred (H - 1), show H - 1 + 1 = H by omega]]
    exact q_mul 2 (H - 1)
  rw [e2]
  unfold trl
  by_cases h0 : N = 0
  · have : H = 1 := by
      rcases Nat.lt_or_ge 1 H with h1 | h1
      · exfalso
        have h2 := h.en.1 0 1 (by omega) h1
        obtain ⟨y, hy, -⟩ := hD (k 1) (h.c h1) (by omega)
        obtain ⟨r, hr, -⟩ := hn.1.2.2 y hy
        omega
      · omega
    subst h0 this
    rfl
  · obtain ⟨M, rfl⟩ : ∃ M, N = M + 1 := ⟨N - 1, by omega⟩
    rw [if_neg h0, Nat.add_sub_cancel, key M (Nat.le_refl _)]
    have : U (M + 1) = H - 1 := by
      have e1 : cn (fun j => decide (j = 0)) H = 1 := cn_one (m := 0) hpos (by simp) (fun j _ hj => by simp [hj])
      have e3 : cn (fun _ => true) H = U (M + 1) + cn (fun j => decide (j = 0)) H := by
        refine cn_or (fun j hj => ?_) (fun j hj hb => ?_)
        · rcases Nat.eq_zero_or_pos j with h1 | h1
          · subst h1; rfl
          · have h3 := h.en.1 0 j h1 hj
            obtain ⟨y, hy, hb⟩ := hD (k j) (h.c hj) (by omega)
            obtain ⟨r, hr, e⟩ := hn.1.2.2 y hy
            rw [decide_eq_true h1, decide_eq_true (cn_pos (m := r) hr (by rw [e]; exact bgB_iff.mpr hb))]
            rfl
        · rw [Bool.and_eq_true, decide_eq_true_iff] at hb
          exact decide_eq_false (by omega)
      rw [cn_true (fun _ _ => rfl)] at e3
      omega
    rw [this]
theorem ctour_c (hT : Tn H k C N n W) : mX5_tourRoads (nI H) = trl H k N n := (tour_2 hT).symm
theorem cnew_c (hK : Kc ks ws H k W) (hT : Tn H k C N n W) {x : Nat} (hx : VN x) :
    (¬ W x = -1 → mX5_newHousesFor (nI H) ks ws (nI x) = some (-1)) ∧
    (W x = -1 → C (ctN x (knl N n x (lnN x))) → mX5_newHousesFor (nI H) ks ws (nI x) = some (nI (lnN x) - nI (knl N n x (lnN x)) + 0)) ∧
    (W x = -1 → ¬ C (ctN x (knl N n x (lnN x))) → mX5_newHousesFor (nI H) ks ws (nI x) = some (nI (lnN x) - nI (knl N n x (lnN x)) + 1)) := by
  have h := hT.1
  have hH := h.le
  have hkn : knl N n x (lnN x) ≤ lnN x := by
    have : ∀ l, knl N n x l ≤ l := by
      intro l
      induction l with
      | zero => exact Nat.le_refl _
      | succ l ih =>
        unfold knl
        split <;> omega
    exact this _
  have h8 := hx.len
  have v := ct_VN (k := x) (l := knl N n x (lnN x)) hx.lt (by omega)
  unfold mX5_newHousesFor
  rw [weightOf_c hK h hT.2.2.1 hx.l31, Option.bind_some]
  refine ⟨fun h1 => by rw [if_neg h1], fun h1 h2 => ?_, fun h1 h2 => ?_⟩
  · obtain ⟨h3, -⟩ := h.ixe h2
    rw [if_pos h1, known_c hK hT hx, Option.bind_some, cut_c (by omega) hx.l31, (index_c hK h v.l31).1 h2, Option.bind_some, if_neg (q_neg (by omega)), len_c]
  · rw [if_pos h1, known_c hK hT hx, Option.bind_some, cut_c (by omega) hx.l31, (index_c hK h v.l31).2 h2, Option.bind_some, if_pos rfl, len_c]
end ClsQ
