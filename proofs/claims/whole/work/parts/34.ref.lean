/-! What the reference answers, over its state. -/
def Rf (f : Nat → Int32) (H : Nat) (k : Nat → Nat) (N : Nat) (n : Nat → Nat) (W : Nat → Int32) : Prop :=
  f 2 = nI H ∧ (∀ i, i < H → f (55 + i) = nI (k i)) ∧ f 1 = nI N ∧ (∀ r, r < N → f (7 + r) = nI (n r)) ∧ ∀ r, r < N → f (31 + r) = W (n r)
theorem lpS (L : Nat → Int32 → Int32 → Option (Int32 × Int32)) (N : Nat) (g : Nat → Int32) (i0 : Nat)
    (hs : ∀ n a i, i0 ≤ i → i < N → L (n + 1) a (nI i) = L n (a + g i) (nI (i + 1))) (he : ∀ n a, L (n + 1) a (nI N) = some (a, nI N)) (a : Int32) (n : Nat) (h : N < n) (h0 : i0 ≤ N) :
    L n (a + sm g i0) (nI i0) = some (a + sm g N, nI N) := by
  obtain ⟨t, ht, e⟩ := lpI (fun n i (s : Int32) => L n s (nI i)) N (fun i s => s = a + sm g i ∧ i0 ≤ i) (fun t => t = (a + sm g N, nI N))
    (fun n i s hi hI => ⟨s + g i, ⟨by rw [hI.1, sm_s, Int32.add_assoc], by omega⟩, hs n s i hI.2 hi⟩)
    (fun n s hI => ⟨(s, nI N), by rw [hI.1], he n s⟩) (N - i0) n i0 (a + sm g i0) (by omega) (by omega) ⟨rfl, Nat.le_refl _⟩
  rw [ht] at e
  exact e
theorem lpS0 (L : Nat → Int32 → Int32 → Option (Int32 × Int32)) (N : Nat) (g : Nat → Int32)
    (hs : ∀ n a i, i < N → L (n + 1) a (nI i) = L n (a + g i) (nI (i + 1))) (he : ∀ n a, L (n + 1) a (nI N) = some (a, nI N)) (a : Int32) (n : Nat) (h : N < n) :
    L n a 0 = some (a + sm g N, nI N) := by
  have := lpS L N g 0 (fun n a i _ hi => hs n a i hi) he a n h (Nat.zero_le _)
  rw [show a + sm g 0 = a from Int32.add_zero a] at this
  exact this
theorem lit (n : Nat) : (OfNat.ofNat n : Int32) = nI n := rfl
section RefQ
variable {f : Nat → Int32} {H : Nat} {k : Nat → Nat} {N : Nat} {n : Nat → Nat} {W : Nat → Int32} {C : Nat → Prop}
theorem name_c (hR : Rf f H k N n W) (hn : Ns N n W) {r : Nat} (hr : r < N) : mX8_name f (nI r) = some (nI (n r)) := by
  unfold mX8_name
  have := hn.2.2
  rw [show (7 : Int32) + nI r = nI (7 + r) from nI_add 7 r, rd_nI f (by omega) (by omega), hR.2.2.2.1 r hr]
  rfl
theorem wgt_c (hR : Rf f H k N n W) (hn : Ns N n W) {r : Nat} (hr : r < N) : rdA 255 f (31 + nI r) = some (W (n r)) := by
  have := hn.2.2
  rw [show (31 : Int32) + nI r = nI (31 + r) from nI_add 31 r, rd_nI f (by omega) (by omega), hR.2.2.2.2 r hr]
theorem pfx_c (hR : Rf f H k N n W) (h : Hs H k C) {i : Nat} (hi : i < H) : mX8_prefixOf f (nI i) = some (nI (k i)) := by
  unfold mX8_prefixOf
  have := h.le
  rw [show (55 : Int32) + nI i = nI (55 + i) from nI_add 55 i, rd_nI f (by omega) (by omega), hR.2.1 i hi]
  rfl
theorem rank_c (hR : Rf f H k N n W) (hn : Ns N n W) {x : Nat} (hx : x < 2 ^ 31) : mX8_rankOf f (nI x) = some (nI (plc N n x)) := by
  have hN := hn.2.2
  have e := lpS0 (fun n a i => mX8_rankOf_L4 f (nI x) n a i) N (fun r => if decide (n r < x) = true then 1 else 0) (fun m a i hi => by
    show mX8_rankOf_L4 f (nI x) (m + 1) a (nI i) = mX8_rankOf_L4 f (nI x) m _ _
    rw [mX8_rankOf_L4, hR.2.2.1, if_neg (nI_ge hi (by omega)), name_c hR hn hi, Option.bind_some, nI_1]
    have hv := (hn.2.1 _ (hn.1.2.1 i hi)).l31
    by_cases h1 : n i < x
    · rw [if_neg (nI_ge h1 hx), decide_eq_true h1]; rfl
    · rw [if_pos (nI_le (by omega) hv), decide_eq_false h1]; rfl) (fun m a => by
    show mX8_rankOf_L4 f (nI x) (m + 1) a (nI N) = _
    rw [mX8_rankOf_L4, hR.2.2.1, if_pos (nI_le (Nat.le_refl _) (by omega))]) 0 FU (by unfold FU; omega)
  unfold mX8_rankOf
  rw [show mX8_rankOf_L4 f (nI x) FU 0 0 = _ from e, Option.bind_some, Int32.zero_add, sm_nI]
  rfl
theorem findn_no (hR : Rf f H k N n W) (hn : Ns N n W) {x : Nat} (hx : x < 2 ^ 31) (h0 : W x = -1) : mX8_findName f (nI x) = some (-1) := by
  have hN := hn.2.2
  have hp := plc_le N n x
  unfold mX8_findName
  rw [rank_c hR hn hx, Option.bind_some, hR.2.2.1]
  rcases Nat.lt_or_ge (plc N n x) N with h1 | h1
  · rw [if_neg (nI_ge h1 (by omega)), name_c hR hn h1, Option.bind_some, if_neg]
    intro e
    have hv := hn.1.2.1 _ h1
    rw [(nI_eq (hn.2.1 _ hv).l31 hx).mp e] at hv
    exact hv h0
  · rw [if_pos (nI_le h1 (by omega))]
theorem findn_yes (hR : Rf f H k N n W) (hn : Ns N n W) {x : Nat} (h0 : ¬ W x = -1) : mX8_findName f (nI x) = some (nI (plc N n x)) ∧ plc N n x < N ∧ n (plc N n x) = x := by
  have hN := hn.2.2
  obtain ⟨r, hr, e⟩ := hn.1.2.2 x h0
  have hi := hn.1.idx hr
  rw [e] at hi
  refine ⟨?_, by omega, by rw [hi]; exact e⟩
  unfold mX8_findName
  rw [rank_c hR hn (hn.2.1 x h0).l31, Option.bind_some, hR.2.2.1, hi, if_neg (nI_ge hr (by omega)), name_c hR hn hr, Option.bind_some, e, if_pos rfl]
theorem count_c (hR : Rf f H k N n W) (hn : Ns N n W) {x : Nat} (hx : VN x) : mX8_countBelow f (nI x) = some (nI (cn (fun r => bgB x (n r)) N)) := by
  have hN := hn.2.2
  have e := lpS0 (fun n a i => mX8_countBelow_L4 f (nI x) n a i) N (fun r => if bgB x (n r) = true then 1 else 0) (fun m a i hi => by
    show mX8_countBelow_L4 f (nI x) (m + 1) a (nI i) = mX8_countBelow_L4 f (nI x) m _ _
    rw [mX8_countBelow_L4, hR.2.2.1, if_neg (nI_ge hi (by omega)), name_c hR hn hi, Option.bind_some, nI_1, begs_c hx (hn.2.1 _ (hn.1.2.1 i hi))]
    cases bgB x (n i) <;> rfl) (fun m a => by
    show mX8_countBelow_L4 f (nI x) (m + 1) a (nI N) = _
    rw [mX8_countBelow_L4, hR.2.2.1, if_pos (nI_le (Nat.le_refl _) (by omega))]) 0 FU (by unfold FU; omega)
  unfold mX8_countBelow
  rw [show mX8_countBelow_L4 f (nI x) FU 0 0 = _ from e, Option.bind_some, Int32.zero_add, sm_nI]
theorem wbelow_c (hR : Rf f H k N n W) (hn : Ns N n W) {x : Nat} (hx : VN x) : mX8_weightBelow f (nI x) = some (sm (fun r => if bgB x (n r) then W (n r) else 0) N) := by
  have hN := hn.2.2
  have e := lpS0 (fun n a i => mX8_weightBelow_L4 f (nI x) n a i) N (fun r => if bgB x (n r) = true then W (n r) else 0) (fun m a i hi => by
    show mX8_weightBelow_L4 f (nI x) (m + 1) a (nI i) = mX8_weightBelow_L4 f (nI x) m _ _
    rw [mX8_weightBelow_L4, hR.2.2.1, if_neg (nI_ge hi (by omega)), name_c hR hn hi, Option.bind_some, nI_1, begs_c hx (hn.2.1 _ (hn.1.2.1 i hi)), wgt_c hR hn hi, Option.bind_some]
    cases bgB x (n i) <;> rfl) (fun m a => by
    show mX8_weightBelow_L4 f (nI x) (m + 1) a (nI N) = _
    rw [mX8_weightBelow_L4, hR.2.2.1, if_pos (nI_le (Nat.le_refl _) (by omega))]) 0 FU (by unfold FU; omega)
  unfold mX8_weightBelow
  rw [show mX8_weightBelow_L4 f (nI x) FU 0 0 = _ from e, Option.bind_some, Int32.zero_add]
def tB (N : Nat) (n : Nat → Nat) (x : Nat) : Bool := decide (lnN x = 0) || decide (0 < cn (fun r => bgB x (n r)) N)
theorem isin_c (hR : Rf f H k N n W) (hn : Ns N n W) {x : Nat} (hx : VN x) : mX8_isInTown f (nI x) = some (if tB N n x then 1 else 0) := by
  have hN := hn.2.2
  unfold mX8_isInTown tB
  rw [lof_c]
  by_cases h0 : lnN x = 0
  · rw [h0, if_pos nI_0]; rfl
  · have h15 := ln_lt x
    rw [if_neg (nI_ne0 (by omega) (by omega)), count_c hR hn hx, Option.bind_some]
    have := cn_le (fun r => bgB x (n r)) N
    generalize cn (fun r => bgB x (n r)) N = q at *
    rw [decide_eq_false h0, Bool.false_or]
    by_cases h1 : 0 < q
    · rw [if_neg (nI_nle h1 (by omega)), decide_eq_true h1]; rfl
    · have : q = 0 := by omega
      subst this
      rfl
theorem findh_c (hR : Rf f H k N n W) (h : Hs H k C) {x : Nat} (hx : x < 2 ^ 31) : (C x → mX8_findHouse f (nI x) = some (nI (plc H k x))) ∧ (¬ C x → mX8_findHouse f (nI x) = some (-1)) := by
  have hH := h.le
  have key : ∀ v : Int32, (∀ i, i < H → k i = x → nI i = v) → ((∀ i, i < H → k i ≠ x) → v = -1) → mX8_findHouse f (nI x) = some v := by
    intro v h1 h2
    obtain ⟨t, ht, e⟩ := lpI (fun n i (s : Int32) => mX8_findHouse_L4 f (nI x) n s (nI i)) H (fun i s => (∀ j, j < i → k j = x → s = v) ∧ ((∀ j, j < i → k j ≠ x) → s = -1)) (fun t => t = (v, nI H))
      (fun m i s hi hI => by
        refine ⟨if nI (k i) = nI x then nI i else s, ?_, ?_⟩
        · have e1 : nI (k i) = nI x ↔ k i = x := nI_eq (h.v hi).l31 hx
          constructor
          · intro j hj hx
            rcases Nat.lt_or_ge j i with h3 | h3
            · split
              · rename_i h4
                have := h.en.inj hi (by omega) ((e1.mp h4).trans hx.symm)
                omega
              · exact hI.1 j h3 hx
            · have : j = i := by omega
              subst this
              rw [if_pos (congrArg nI hx)]
              exact h1 _ hi hx
          · intro hj
            rw [if_neg (fun h4 => hj i (by omega) (e1.mp h4))]
            exact hI.2 (fun j h3 => hj j (by omega))
        · show mX8_findHouse_L4 f (nI x) (m + 1) s (nI i) = _
          rw [mX8_findHouse_L4, hR.1, if_neg (nI_ge hi (by omega)), pfx_c hR h hi, Option.bind_some, nI_1])
      (fun m s hI => by
        refine ⟨(s, nI H), ?_, ?_⟩
        · have : s = v := by
            by_cases h3 : ∃ i, i < H ∧ k i = x
            · obtain ⟨i, hi, e⟩ := h3
              exact hI.1 i hi e
            · have h4 : ∀ i, i < H → k i ≠ x := fun i hi e => h3 ⟨i, hi, e⟩
              rw [hI.2 h4, h2 h4]
          rw [this]
        · show mX8_findHouse_L4 f (nI x) (m + 1) s (nI H) = _
          rw [mX8_findHouse_L4, hR.1, if_pos (nI_le (Nat.le_refl _) (by omega))])
      H FU 0 (-1) (by omega) (by unfold FU; omega) ⟨fun j hj => absurd hj (Nat.not_lt_zero _), fun _ => rfl⟩
    unfold mX8_findHouse
    rw [show mX8_findHouse_L4 f (nI x) FU (-1) 0 = _ from e, ht]
    rfl
  constructor
  · intro hC
    refine key _ (fun i hi e => ?_) (fun h3 => ?_)
    · rw [← e, h.ixi hi]
    · obtain ⟨h4, h5⟩ := h.ixe hC
      exact absurd h5 (h3 _ h4)
  · intro hC
    refine key _ (fun i hi e => ?_) (fun _ => rfl)
    rw [← e] at hC
    exact absurd (h.c hi) hC
theorem par_c (hR : Rf f H k N n W) (h : Hs H k C) {i : Nat} (hi : i < H) (h0 : 0 < i) : mX8_parentOf f (nI i) = some (nI (pr k i)) := by
  have hH := h.le
  have hp := pr_lt k h0
  obtain ⟨t, ht, e⟩ := lpD (fun n j (_ : Unit) => mX8_parentOf_L4 f (nI i) n (nI j)) (pr k i) (fun j _ => j < i) (fun t => t = nI (pr k i))
    (fun m j s hj hI => by
      refine ⟨s, by omega, ?_⟩
      show mX8_parentOf_L4 f (nI i) (m + 1) (nI (j + 1)) = _
      rw [mX8_parentOf_L4, pfx_c hR h (by omega), Option.bind_some, pfx_c hR h hi, Option.bind_some, begs_c (h.v (by omega)) (h.v hi), if_pos, q_m1]
      rw [ite01, bgB_f]
      intro hb
      have := h.prm hi (by omega) hb
      omega)
    (fun m s hI => by
      refine ⟨_, rfl, ?_⟩
      show mX8_parentOf_L4 f (nI i) (m + 1) (nI (pr k i)) = _
      rw [mX8_parentOf_L4, pfx_c hR h (by omega), Option.bind_some, pfx_c hR h hi, Option.bind_some, begs_c (h.v (by omega)) (h.v hi), if_neg]
      rw [ite01, bgB_f]
      exact fun hb => hb (h.prb hi))
    (i - 1 - pr k i) FU (i - 1) () (by omega) (by unfold FU; omega) (by omega)
  unfold mX8_parentOf
  rw [show nI i - 1 = nI (i - 1) by rw [← nI_pred (i - 1), show i - 1 + 1 = i by omega], show mX8_parentOf_L4 f (nI i) FU (nI (i - 1)) = _ from e, ht]
  rfl
theorem chl_c (hR : Rf f H k N n W) (h : Hs H k C) {i : Nat} (hi : i < H) : mX8_childrenOf f (nI i) = some (nI (ch H k i)) := by
  have hH := h.le
  have e := lpS (fun n a j => mX8_childrenOf_L6 f (nI i) n a j) H (fun j => if (decide (0 < j) && decide (pr k j = i)) = true then 1 else 0) (i + 1) (fun m a j h1 hj => by
    show mX8_childrenOf_L6 f (nI i) (m + 1) a (nI j) = mX8_childrenOf_L6 f (nI i) m _ _
    have hpj := pr_lt k (show 0 < j by omega)
    rw [mX8_childrenOf_L6, hR.1, if_neg (nI_ge hj (by omega)), par_c hR h hj (by omega), Option.bind_some, nI_1, decide_eq_true (show 0 < j by omega), Bool.true_and]
    by_cases h2 : pr k j = i
    · rw [if_pos (congrArg nI h2), decide_eq_true h2]; rfl
    · rw [if_neg (fun h3 => h2 ((nI_eq (by omega) (by omega)).mp h3)), decide_eq_false h2]; rfl) (fun m a => by
    show mX8_childrenOf_L6 f (nI i) (m + 1) a (nI H) = _
    rw [mX8_childrenOf_L6, hR.1, if_pos (nI_le (Nat.le_refl _) (by omega))]) 0 FU (by unfold FU; omega) (by omega)
  rw [Int32.zero_add, sm_zero (fun j hj => by
    rw [if_neg]
    intro h2
    have := ch_gt h2
    omega)] at e
  unfold mX8_childrenOf
  rw [nI_1, show mX8_childrenOf_L6 f (nI i) FU 0 (nI (i + 1)) = _ from e, Option.bind_some, Int32.zero_add, sm_nI]
  rfl
theorem roads_c (hR : Rf f H k N n W) (h : Hs H k C) {x : Nat} (hx : VN x) : mX8_roadsTo f (nI x) = some (nI (dp H k x - 1)) := by
  have hH := h.le
  have e := lpS0 (fun n a i => mX8_roadsTo_L4 f (nI x) n a i) H (fun j => if bgB (k j) x = true then 1 else 0) (fun m a i hi => by
    show mX8_roadsTo_L4 f (nI x) (m + 1) a (nI i) = mX8_roadsTo_L4 f (nI x) m _ _
    rw [mX8_roadsTo_L4, hR.1, if_neg (nI_ge hi (by omega)), pfx_c hR h hi, Option.bind_some, nI_1, begs_c (h.v hi) hx]
    cases bgB (k i) x <;> rfl) (fun m a => by
    show mX8_roadsTo_L4 f (nI x) (m + 1) a (nI H) = _
    rw [mX8_roadsTo_L4, hR.1, if_pos (nI_le (Nat.le_refl _) (by omega))]) (-1) FU (by unfold FU; omega)
  unfold mX8_roadsTo
  rw [show mX8_roadsTo_L4 f (nI x) FU (-1) 0 = _ from e, Option.bind_some, sm_nI, Int32.add_comm]
  have h1 := dp_pos h hx
  show some (nI (dp H k x) + -1) = _
  obtain ⟨d, hd⟩ : ∃ d, dp H k x = d + 1 := ⟨dp H k x - 1, by omega⟩
  rw [hd, q_m1]
  rfl
theorem lbl_c (hR : Rf f H k N n W) (h : Hs H k C) {i : Nat} (hi : i < H) : mX8_labelOf f (nI i) = some (nI (lb k i)) := by
  have hH := h.le
  unfold mX8_labelOf
  rcases Nat.eq_zero_or_pos i with h0 | h0
  · subst h0
    rw [if_pos nI_0, lb_0]
    rfl
  · rw [if_neg (nI_ne0 h0 (by omega)), pfx_c hR h hi, Option.bind_some, par_c hR h hi h0, Option.bind_some, pfx_c hR h (by have := pr_lt k h0; omega), Option.bind_some, lof_c, lof_c, q_sub (Nat.le_of_lt (h.lbp hi h0))]
    rfl
end RefQ
