/-! The law walks as the postman does. -/
section Tours
variable {na we hq : Nat → Int32} {H : Nat} {k : Nat → Nat} {W : Nat → Int32} {C : Nat → Prop} {N : Nat} {n : Nat → Nat}
variable {ks ws pa ca ra ni wi ho : Nat → Int32}
theorem tplace (hL : LI na we hq C W) (hT : Tn H k C N n W) {r : Nat} (hr : r < N) : ∃ p, p < 15 ∧ n r = pcd p ∧ mL_tours_L27 na (nI r) FU 0 1 = some (nI p, nI 15) := by
  have hn := hT.2.1
  have hN := hn.2.2
  have hx := hn.1.2.1 r hr
  obtain ⟨p, hp, ep⟩ := hL.2 _ (hT.2.2.1 _ hx)
  have e1 : na p = 1 := (hL.wn hp).mp (by rw [← ep]; exact hx)
  have p0 : p ≠ 0 := fun e => hL.n0 hT (by rw [← e]; exact e1)
  obtain ⟨t, ht, e⟩ := lpI (fun m i (s : Int32) => mL_tours_L27 na (nI r) m s (nI i)) 15 (fun i s => 0 < i ∧ s = if p < i then nI p else 0) (fun t => t = (nI p, nI 15))
    (fun m i s hi hI => by
      obtain ⟨i0, hs⟩ := hI
      refine ⟨if p < i + 1 then nI p else 0, ⟨by omega, rfl⟩, ?_⟩
      show mL_tours_L27 na (nI r) (m + 1) s (nI i) = mL_tours_L27 na (nI r) m (if p < i + 1 then nI p else 0) (nI (i + 1))
      rw [mL_tours_L27, if_neg (ge15 hi), rd15 na hi, Option.bind_some, hs, nI_1]
      by_cases e : na i = 1
      · obtain ⟨r1, r2, -⟩ := nv_c (k := k) (H := H) hT hL hi e
        rw [if_pos e, l_rank hL hT hi, Option.bind_some]
        by_cases c : i = p
        · subst c
          have : plc N n (pcd i) = r := hn.1.inj r1 hr (by rw [r2, ep])
          rw [if_pos (congrArg nI this), if_pos (show i < i + 1 by omega)]
        · have : ¬ nI (plc N n (pcd i)) = nI r := fun e2 => by
            have e3 := (nI_eq (by omega) (by omega)).mp e2
            rw [e3, ep] at r2
            exact c (pc_inj hi hp r2.symm)
          rw [if_neg this]
          by_cases c2 : p < i
          · rw [if_pos c2, if_pos (show p < i + 1 by omega)]
          · rw [if_neg c2, if_neg (show ¬ p < i + 1 by omega)]
      · rw [if_neg e]
        have c : i ≠ p := fun e2 => e (by rw [e2]; exact e1)
        by_cases c2 : p < i
        · rw [if_pos c2, if_pos (show p < i + 1 by omega)]
        · rw [if_neg c2, if_neg (show ¬ p < i + 1 by omega)])
    (fun m s hI => by
      refine ⟨(s, nI 15), by rw [hI.2, if_pos hp], ?_⟩
      show mL_tours_L27 na (nI r) (m + 1) s (nI 15) = _
      rw [mL_tours_L27, if_pos le15])
    14 FU 1 0 (by omega) (by unfold FU; omega) ⟨by omega, (if_neg (by omega)).symm⟩
  exact ⟨p, hp, ep, by rw [← ht]; exact e⟩
def prv (n : Nat → Nat) (r : Nat) : Nat := if r = 0 then 0 else n (r - 1)
theorem rb_comm (H : Nat) (k : Nat → Nat) (x y : Nat) : rb H k x y = rb H k y x := by
  unfold rb
  rw [cb_comm, Nat.add_comm]
theorem rb_0 (h : Hs H k C) {x : Nat} (hx : VN x) : rb H k 0 x = dp H k x - 1 := by
  have e1 : dp H k 0 = 1 := by
    have := dp_0 h
    rw [h.k0] at this
    exact this
  have e2 := cb_le H k 0 x
  have e3 := cb_pos h VN0 hx
  unfold rb
  omega
theorem rb_00 (h : Hs H k C) : rb H k 0 0 = 0 := by
  have e1 : dp H k 0 = 1 := by
    have := dp_0 h
    rw [h.k0] at this
    exact this
  rw [rb_0 h VN0, e1]
theorem tours_c (hK : Kc ks ws H k W) (hS : Sv H k N n W pa ca ra ni wi ho) (hT : Tn H k C N n W) (hL : LI na we hq C W) (L mv ev bu td tl : Int32) :
    mL_tours (nI H) L mv ev bu td ks ws pa ra ni ho tl na hq = some 1 := by
  have h := hT.1
  have hn := hT.2.1
  have hN := hn.2.2
  have w0 : mX7_whole_n (nI H) L mv ev bu td ks ws pa ra ni ho tl 0 = some (nI N) := by
    unfold mX7_whole_n
    rw [show mX7_requireWhat_n 0 12 = some () from wh12 0 (by decide), Option.bind_some, if_neg (by decide)]
    unfold mX5_townValue
    rw [if_pos rfl, cnames_c hS h hn]
    rfl
  obtain ⟨t, ht, e⟩ := lpI (fun m r (s : Int32 × Int32) => mL_tours_L15 (nI N) na hq pa ni ho m s.1 s.2 (nI r)) N
    (fun r s => s.1 = sm (fun r => nI (rb H k (prv n r) (n r))) r ∧ ∃ l, l < 15 ∧ s.2 = nI l ∧ pcd l = prv n r)
    (fun t => t.1 = sm (fun r => nI (rb H k (prv n r) (n r))) N ∧ ∃ l, l < 15 ∧ t.2.1 = nI l ∧ pcd l = prv n N)
    (fun m r s hr hI => by
      obtain ⟨s4, s5⟩ := s
      obtain ⟨i1, l, hl, i2, i3⟩ := hI
      have i2 : s5 = nI l := i2
      obtain ⟨p, hp, ep, et⟩ := tplace hL hT hr
      have ebt : mL_between hq s5 (nI p) = some (nI (rb H k (prv n r) (n r))) := by rw [i2, l_rb hL h hl hp, i3, ep]
      refine ⟨(s4 + nI (rb H k (prv n r) (n r)), nI p), ⟨?_, p, hp, rfl, ?_⟩, ?_⟩
      · show s4 + _ = _
        rw [sm_s]
        exact congrArg (· + nI (rb H k (prv n r) (n r))) i1
      · show pcd p = prv n (r + 1)
        unfold prv
        rw [if_neg (by omega), Nat.add_sub_cancel, ep]
      · show mL_tours_L15 (nI N) na hq pa ni ho (m + 1) s4 s5 (nI r) = mL_tours_L15 (nI N) na hq pa ni ho m (s4 + nI (rb H k (prv n r) (n r))) (nI p) (nI (r + 1))
        have j119 : mL_tours_J119 hq s5 (nI p) s4 (nI r) (mL_tours_L15 (nI N) na hq pa ni ho m) = mL_tours_L15 (nI N) na hq pa ni ho m (s4 + nI (rb H k (prv n r) (n r))) (nI p) (nI (r + 1)) := by
          unfold mL_tours_J119
          rw [ebt, Option.bind_some, nI_1]
        rw [mL_tours_L15, if_neg (nI_ge hr (by omega)), et, ← j119]
        simp only [Option.bind_some]
        unfold mL_tours_J68
        rcases Nat.eq_zero_or_pos r with h0 | h0
        · rw [if_pos (show nI r ≤ 0 from nI_le (b := 0) (by omega) (by omega))]
        · have er : nI r - 1 = nI (r - 1) := by rw [← nI_pred (r - 1), show r - 1 + 1 = r by omega]
          have e1 : prv n r = n (r - 1) := if_neg (by omega)
          rw [if_neg (nI_nle h0 (by omega)), er, c_btw hS hT (show r - 1 < N by omega) hr, Option.bind_some, ebt, Option.bind_some, e1, if_pos rfl, c_btw hS hT hr (show r - 1 < N by omega), Option.bind_some, Option.bind_some, rb_comm H k (n r), if_pos rfl])
    (fun m s hI => by
      refine ⟨(s.1, s.2, nI N), hI, ?_⟩
      show mL_tours_L15 (nI N) na hq pa ni ho (m + 1) s.1 s.2 (nI N) = _
      rw [mL_tours_L15, if_pos (nI_le (Nat.le_refl _) (by omega))])
    N FU 0 (0, 0) (by omega) (by unfold FU; omega) ⟨rfl, 0, by decide, rfl, rfl⟩
  obtain ⟨t4, t5, t6⟩ := t
  obtain ⟨t1, l, hl, t2, t3⟩ := ht
  have t1 : t4 = _ := t1
  have t2 : t5 = nI l := t2
  have hb0 : mL_between hq (nI l) 0 = some (nI (rb H k (prv n N) 0)) := by
    have := l_rb hL h hl (show 0 < 15 by decide)
    rw [t3, pc_0] at this
    exact this
  unfold mL_tours
  rw [w0, Option.bind_some, show mL_tours_L15 (nI N) na hq pa ni ho FU 0 0 0 = _ from e]
  simp only [Option.bind_some]
  rw [t2, hb0, Option.bind_some]
  refine if_pos ?_
  show mX5_tourRoads (nI H) = _
  rw [ctour_c hT, t1]
  unfold trl
  by_cases h0 : N = 0
  · subst h0
    rw [if_pos rfl]
    show (0 : Int32) + 0 = 0 + nI (rb H k 0 0)
    rw [rb_00 h]
    rfl
  · have v0 : VN (n 0) := hn.2.1 _ (hn.1.2.1 0 (by omega))
    have vN : VN (n (N - 1)) := hn.2.1 _ (hn.1.2.1 _ (by omega))
    have e1 : prv n N = n (N - 1) := if_neg h0
    rw [if_neg h0, e1, rb_comm, rb_0 h vN]
    have e2 : sm (fun r => nI (rb H k (prv n r) (n r))) N = nI (dp H k (n 0) - 1) + sm (fun r => if r = 0 then 0 else nI (rb H k (n (r - 1)) (n r))) N := by
      have e3 : nI (dp H k (n 0) - 1) = sm (fun r => if r = 0 then nI (dp H k (n 0) - 1) else 0) N := by rw [sm_one (m := 0) (by omega) (fun i _ hne => if_neg hne), if_pos rfl]
      conv => rhs; rw [e3]
      refine sm_plus (fun r hr => ?_)
      by_cases c : r = 0
      · subst c
        rw [if_pos rfl, if_pos rfl, Int32.add_zero]
        show nI (rb H k 0 (n 0)) = _
        rw [rb_0 h v0]
      · rw [if_neg c, if_neg c, Int32.zero_add]
        unfold prv
        rw [if_neg c]
    rw [e2]
    simp only [Int32.add_assoc]
    congr 1
    exact Int32.add_comm _ _
end Tours
