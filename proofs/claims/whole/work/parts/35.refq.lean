/-! The town whole, and the reference's other answers. -/
def Tn (H : Nat) (k : Nat → Nat) (C : Nat → Prop) (N : Nat) (n : Nat → Nat) (W : Nat → Int32) : Prop :=
  Hs H k C ∧ Ns N n W ∧ (∀ x, ¬ W x = -1 → C x) ∧ W 0 = -1 ∧ (∀ x, C x → x ≠ 0 → ∃ y, ¬ W y = -1 ∧ bgN x y) ∧
  ∀ x y l, C x → C y → l < lnN x → l < lnN y → ctN x l = ctN y l → ¬ ctN x (l + 1) = ctN y (l + 1) → C (ctN x l)
def why (L : Int32) (H : Nat) (k : Nat → Nat) (W : Nat → Int32) (i : Nat) : Int32 :=
  if i = 0 then 1 else if hm W (k i) then 2 else if ch H k i ≤ 1 then (if nI (lb k i + lb k (i + 1)) ≤ L then 0 else 4) else 3
def wbl (N : Nat) (n : Nat → Nat) (W : Nat → Int32) (x : Nat) : Int32 := sm (fun r => if bgB x (n r) then W (n r) else 0) N
def nbl (N : Nat) (n : Nat → Nat) (x : Nat) : Nat := cn (fun r => bgB x (n r)) N
def svl (L : Int32) (H : Nat) (k : Nat → Nat) (N : Nat) (n : Nat → Nat) (W : Nat → Int32) (i : Nat) : Int32 := if why L H k W i ≤ 0 then wbl N n W (k i) else -1
def knl (N : Nat) (n : Nat → Nat) (x : Nat) : Nat → Nat
  | 0 => 0
  | l + 1 => if tB N n (ctN x (l + 1)) then l + 1 else knl N n x l
def cb (H : Nat) (k : Nat → Nat) (x y : Nat) : Nat := cn (fun j => bgB (k j) x && bgB (k j) y) H
def rb (H : Nat) (k : Nat → Nat) (x y : Nat) : Nat := dp H k x + dp H k y - 2 * cb H k x y
def mxf (g : Nat → Int32) : Nat → Int32
  | 0 => 0
  | n + 1 => if g n ≤ mxf g n then mxf g n else g n
def bsf (g : Nat → Int32) : Nat → Int32 × Int32
  | 0 => (-1, -1)
  | n + 1 => (if g n ≤ (bsf g n).2 then (bsf g n).1 else nI n, if g n ≤ (bsf g n).2 then (bsf g n).2 else g n)
def nvl (H : Nat) (k : Nat → Nat) (n : Nat → Nat) (W : Nat → Int32) (r : Nat) (p : Int32) : Int32 :=
  if p = 0 then nI (n r / bsN (lnN (n r))) else if p = 1 then nI (lnN (n r)) else if p = 2 then W (n r) else nI (dp H k (n r) - 1)
def hvl (H : Nat) (k : Nat → Nat) (N : Nat) (n : Nat → Nat) (W : Nat → Int32) (i : Nat) (p : Int32) : Int32 :=
  if p = 0 then nI (k i / bsN (lnN (k i))) else if p = 1 then nI (lnN (k i)) else if p = 2 then nI (k i / bsN (lnN (k i)) % 8 ^ lb k i) else if p = 3 then nI (lb k i)
  else if p = 4 then nI (ch H k i) else if p = 5 then (if hm W (k i) then 1 else 0) else if p = 6 then nI (nbl N n (k i)) else if p = 7 then wbl N n W (k i) else nI (dp H k (k i) - 1)
def cst (H : Nat) (k : Nat → Nat) (N : Nat) (n : Nat → Nat) (W : Nat → Int32) : Int32 := sm (fun r => W (n r) * nI (dp H k (n r) - 1)) N
def trl (H : Nat) (k : Nat → Nat) (N : Nat) (n : Nat → Nat) : Int32 :=
  (if N = 0 then 0 else nI (dp H k (n 0) - 1) + nI (dp H k (n (N - 1)) - 1)) + sm (fun r => if r = 0 then 0 else nI (rb H k (n (r - 1)) (n r))) N
/-- where somebody lives below one that is no home, the next house is its child -/
theorem Tn.nx {H k C N n W} (hT : Tn H k C N n W) {i : Nat} (hi : i < H) (h0 : i ≠ 0) (hh : hm W (k i) = false) : i + 1 < H ∧ pr k (i + 1) = i := by
  obtain ⟨h, hn, hC, hW0, hD, hM⟩ := hT
  obtain ⟨y, hy, hb⟩ := hD (k i) (h.c hi) (by
    intro e
    have h1 := h.en.1 0 i (by omega) hi
    omega)
  obtain ⟨h1, h2⟩ := h.ixe (hC y hy)
  rw [← h2] at hb
  have h3 := h.ij hi h1 hb
  refine h.nxt h1 ?_ hb
  rcases Nat.lt_or_ge i (plc H k y) with h4 | h4
  · exact h4
  · have e : plc H k y = i := by omega
    rw [e] at h2
    rw [hm_f] at hh
    rw [← h2] at hy
    exact absurd hh hy
section RefR
variable {f : Nat → Int32} {H : Nat} {k : Nat → Nat} {N : Nat} {n : Nat → Nat} {W : Nat → Int32} {C : Nat → Prop}
theorem why_c (hR : Rf f H k N n W) (hT : Tn H k C N n W) {i : Nat} (hi : i < H) : mX8_whyNoMove f (nI i) = some (why (f 0) H k W i) := by
  have hTT := hT
  obtain ⟨h, hn, hC, hW0, hD, hM⟩ := hT
  have hH := h.le
  unfold mX8_whyNoMove why
  by_cases h0 : i = 0
  · subst h0
    rw [if_pos nI_0, if_pos rfl]
  rw [if_neg (nI_ne0 (by omega) (by omega)), if_neg h0, pfx_c hR h hi, Option.bind_some]
  by_cases h1 : hm W (k i) = true
  · obtain ⟨e1, e2, -⟩ := findn_yes hR hn (hm_iff.mp h1)
    have := hn.2.2
    rw [e1, Option.bind_some, if_neg (q_neg (by omega)), if_pos h1]
  · rw [findn_no hR hn (h.v hi).l31 (hm_f.mp (by rw [← Bool.not_eq_true]; exact h1)), Option.bind_some, if_pos rfl, if_neg h1, chl_c hR h hi, Option.bind_some]
    have hc := ch_le H k i
    obtain ⟨hx1, hx2⟩ := hTT.nx hi h0 (by rw [← Bool.not_eq_true]; exact h1)
    by_cases h2 : ch H k i ≤ 1
    · rw [if_pos (show nI (ch H k i) ≤ 1 from nI_le (b := 1) h2 (by omega)), if_pos h2, lbl_c hR h hi, Option.bind_some, nI_1, lbl_c hR h hx1, Option.bind_some, nI_add]
    · rw [if_neg (show ¬ nI (ch H k i) ≤ 1 from nI_ge (a := 1) (by omega) (by omega)), if_neg h2]
theorem saves_c (hR : Rf f H k N n W) (hT : Tn H k C N n W) {i : Nat} (hi : i < H) : mX8_saves f (nI i) = some (svl (f 0) H k N n W i) := by
  unfold mX8_saves svl
  rw [why_c hR hT hi, Option.bind_some]
  split
  · rw [pfx_c hR hT.1 hi, Option.bind_some, wbelow_c hR hT.2.1 (hT.1.v hi)]
    rfl
  · rfl
theorem ct_len0 (x : Nat) : lnN (ctN x 0) = 0 := ct_len (Nat.zero_le _)
theorem long_c (hR : Rf f H k N n W) (hn : Ns N n W) {x : Nat} (hx : VN x) : mX8_longestPrefix f (nI x) = some (nI (knl N n x (lnN x))) := by
  have h8 := hx.len
  have key : ∀ l m, l ≤ lnN x → l < m → mX8_longestPrefix_L5 f (nI x) m (nI l) = some (nI (knl N n x l)) := by
    intro l
    induction l with
    | zero =>
      intro m _ hm
      obtain ⟨m, rfl⟩ : ∃ q, m = q + 1 := ⟨m - 1, by omega⟩
      rw [mX8_longestPrefix_L5, sht_c hx (Nat.zero_le _), isin_c hR hn (ct_VN hx.lt (by omega)), Option.bind_some, if_neg]
      · rfl
      · rw [ite01]
        unfold tB
        rw [ct_len0]
        simp
    | succ l ih =>
      intro m hl hm
      obtain ⟨m, rfl⟩ : ∃ q, m = q + 1 := ⟨m - 1, by omega⟩
      rw [mX8_longestPrefix_L5, sht_c hx hl, isin_c hR hn (ct_VN hx.lt (by omega)), Option.bind_some]
      unfold knl
      by_cases e : tB N n (ctN x (l + 1)) = true
      · rw [if_neg (by rw [ite01, e]; decide), if_pos e]
      · rw [if_pos ((ite01 _).mpr (by rw [← Bool.not_eq_true]; exact e)), q_m1, if_neg e]
        exact ih m (by omega) (by omega)
  unfold mX8_longestPrefix
  rw [lof_c, key _ FU (Nat.le_refl _) (by unfold FU; omega)]
  rfl
theorem rbet_c (hR : Rf f H k N n W) (h : Hs H k C) (hn : Ns N n W) {a b : Nat} (ha : a < N) (hb : b < N) : mX8_roadsBetween f (nI a) (nI b) = some (nI (rb H k (n a) (n b))) := by
  have hH := h.le
  have va := hn.2.1 _ (hn.1.2.1 a ha)
  have vb := hn.2.1 _ (hn.1.2.1 b hb)
  have e := lpS0 (fun n x i => mX8_roadsBetween_L5 f (nI a) (nI b) n x i) H (fun j => if (bgB (k j) (n a) && bgB (k j) (n b)) = true then 1 else 0) (fun m x i hi => by
    show mX8_roadsBetween_L5 f (nI a) (nI b) (m + 1) x (nI i) = mX8_roadsBetween_L5 f (nI a) (nI b) m _ _
    rw [mX8_roadsBetween_L5, hR.1, if_neg (nI_ge hi (by omega)), pfx_c hR h hi, Option.bind_some, name_c hR hn ha, Option.bind_some, begs_c (h.v hi) va, Option.bind_some, name_c hR hn hb, Option.bind_some, begs_c (h.v hi) vb, nI_1]
    cases bgB (k i) (n a) <;> cases bgB (k i) (n b) <;> rfl) (fun m x => by
    show mX8_roadsBetween_L5 f (nI a) (nI b) (m + 1) x (nI H) = _
    rw [mX8_roadsBetween_L5, hR.1, if_pos (nI_le (Nat.le_refl _) (by omega))]) (-1) FU (by unfold FU; omega)
  have c1 : 0 < cb H k (n a) (n b) := cn_pos (m := 0) h.pos (by rw [bgB_iff.mpr (h.bg0 va), bgB_iff.mpr (h.bg0 vb)]; rfl)
  have c2 : cb H k (n a) (n b) ≤ dp H k (n a) := cn_imp (fun i hi hx => by
    rw [Bool.and_eq_true] at hx
    exact hx.1)
  have c3 : cb H k (n a) (n b) ≤ dp H k (n b) := cn_imp (fun i hi hx => by
    rw [Bool.and_eq_true] at hx
    exact hx.2)
  unfold mX8_roadsBetween
  rw [show mX8_roadsBetween_L5 f (nI a) (nI b) FU (-1) 0 = _ from e, name_c hR hn ha, name_c hR hn hb]
  simp only [Option.bind_some]
  rw [roads_c hR h va, roads_c hR h vb, sm_nI, Int32.add_comm (-1)]
  show some (nI (dp H k (n a) - 1) + nI (dp H k (n b) - 1) - nI 2 * (nI (cb H k (n a) (n b)) + -1)) = _
  unfold rb
  generalize cb H k (n a) (n b) = c at *
  obtain ⟨c, rfl⟩ : ∃ d, c = d + 1 := ⟨c - 1, by omega⟩
  rw [q_m1, q_mul, nI_add, q_sub (by omega)]
  congr 2
  omega
theorem tour_c (hR : Rf f H k N n W) (h : Hs H k C) (hn : Ns N n W) : mX8_tourOf f = some (trl H k N n) := by
  have hN := hn.2.2
  have key : ∀ a, mX8_tourOf_L39 (f 1) f FU a 1 = some (a + sm (fun r => if r = 0 then 0 else nI (rb H k (n (r - 1)) (n r))) N, if N = 0 then 1 else nI N) := by
    intro a
    by_cases h0 : N = 0
    · rw [if_pos h0, hR.2.2.1, h0]
      show mX8_tourOf_L39 (nI 0) f (99999 + 1) a 1 = _
      rw [mX8_tourOf_L39, if_pos (by decide +kernel)]
      show _ = some (a + 0, 1)
      rw [Int32.add_zero]
    · rw [if_neg h0]
      have e := lpS (fun m a j => mX8_tourOf_L39 (f 1) f m a j) N (fun r => if r = 0 then 0 else nI (rb H k (n (r - 1)) (n r))) 1 (fun m a j h1 hj => by
        show mX8_tourOf_L39 (f 1) f (m + 1) a (nI j) = mX8_tourOf_L39 (f 1) f m _ _
        rw [mX8_tourOf_L39, hR.2.2.1, if_neg (nI_ge hj (by omega)), show nI j - 1 = nI (j - 1) by rw [← nI_pred (j - 1), show j - 1 + 1 = j by omega], rbet_c hR h hn (by omega) hj, Option.bind_some, nI_1, if_neg (by omega)]) (fun m a => by
        show mX8_tourOf_L39 (f 1) f (m + 1) a (nI N) = _
        rw [mX8_tourOf_L39, hR.2.2.1, if_pos (nI_le (Nat.le_refl _) (by omega))]) a FU (by unfold FU; omega) (by omega)
      rw [sm_s (fun r => if r = 0 then 0 else nI (rb H k (n (r - 1)) (n r))) 0, if_pos rfl, show (sm (fun r => if r = 0 then 0 else nI (rb H k (n (r - 1)) (n r))) 0 + 0 : Int32) = 0 from rfl, Int32.add_zero] at e
      exact e
  unfold mX8_tourOf trl
  by_cases h0 : N = 0
  · rw [if_pos (show f 1 = 0 by rw [hR.2.2.1, h0]; exact nI_0), key]
    simp only [Option.bind_some, if_pos h0]
  · rw [if_neg (by rw [hR.2.2.1]; exact nI_ne0 (by omega) (by omega)), show mX8_name f 0 = _ from name_c hR hn (r := 0) (by omega), Option.bind_some, roads_c hR h (hn.2.1 _ (hn.1.2.1 0 (by omega))), Option.bind_some]
    rw [show f 1 - 1 = nI (N - 1) by rw [hR.2.2.1, ← nI_pred (N - 1), show N - 1 + 1 = N by omega], name_c hR hn (by omega), Option.bind_some, roads_c hR h (hn.2.1 _ (hn.1.2.1 _ (by omega))), Option.bind_some, key]
    simp only [Option.bind_some, if_neg h0]
theorem cost_c (hR : Rf f H k N n W) (h : Hs H k C) (hn : Ns N n W) : mX8_costOf f = some (cst H k N n W) := by
  have hN := hn.2.2
  have e := lpS0 (fun n x i => mX8_costOf_L4 f n x i) N (fun r => W (n r) * nI (dp H k (n r) - 1)) (fun m x i hi => by
    show mX8_costOf_L4 f (m + 1) x (nI i) = mX8_costOf_L4 f m _ _
    rw [mX8_costOf_L4, hR.2.2.1, if_neg (nI_ge hi (by omega)), wgt_c hR hn hi, Option.bind_some, name_c hR hn hi, Option.bind_some, roads_c hR h (hn.2.1 _ (hn.1.2.1 i hi)), Option.bind_some, nI_1]) (fun m x => by
    show mX8_costOf_L4 f (m + 1) x (nI N) = _
    rw [mX8_costOf_L4, hR.2.2.1, if_pos (nI_le (Nat.le_refl _) (by omega))]) 0 FU (by unfold FU; omega)
  unfold mX8_costOf
  rw [show mX8_costOf_L4 f FU 0 0 = _ from e, Option.bind_some, Int32.zero_add]
  rfl
theorem letl_c (hR : Rf f H k N n W) (h : Hs H k C) : mX8_wholeValue_L7 f FU 0 0 1 = some (sm (fun j => nI (lb k j)) H, mxf (fun j => nI (lb k j)) H, nI H) := by
  have hH := h.le
  obtain ⟨t, ht, e⟩ := lpI (fun n i (s : Int32 × Int32) => mX8_wholeValue_L7 f n s.1 s.2 (nI i)) H (fun i s => s = (sm (fun j => nI (lb k j)) i, mxf (fun j => nI (lb k j)) i)) (fun t => t = (sm (fun j => nI (lb k j)) H, mxf (fun j => nI (lb k j)) H, nI H))
    (fun m i s hi hI => by
      refine ⟨_, rfl, ?_⟩
      subst hI
      show mX8_wholeValue_L7 f (m + 1) _ _ (nI i) = mX8_wholeValue_L7 f m (sm _ i + _) (if nI (lb k i) ≤ mxf (fun j => nI (lb k j)) i then mxf (fun j => nI (lb k j)) i else nI (lb k i)) _
      rw [mX8_wholeValue_L7, hR.1, if_neg (nI_ge hi (by omega)), lbl_c hR h hi, Option.bind_some, Option.bind_some, Option.bind_some, nI_1]
      split <;> rfl)
    (fun m s hI => by
      refine ⟨_, rfl, ?_⟩
      subst hI
      show mX8_wholeValue_L7 f (m + 1) _ _ (nI H) = _
      rw [mX8_wholeValue_L7, hR.1, if_pos (nI_le (Nat.le_refl _) (by omega))])
    (H - 1) FU 1 (0, 0) (by have := h.pos; omega) (by unfold FU; omega) (by
      show _ = ((0 : Int32) + nI (lb k 0), if nI (lb k 0) ≤ 0 then (0 : Int32) else nI (lb k 0))
      rw [lb_0]
      rfl)
  rw [ht] at e
  exact e
theorem way_c (hR : Rf f H k N n W) (h : Hs H k C) (hn : Ns N n W) : mX8_wholeValue_L60 f FU 0 0 = some (mxf (fun r => nI (dp H k (n r) - 1)) N, nI N) := by
  have hN := hn.2.2
  obtain ⟨t, ht, e⟩ := lpI (fun n i (s : Int32) => mX8_wholeValue_L60 f n s (nI i)) N (fun i s => s = mxf (fun r => nI (dp H k (n r) - 1)) i) (fun t => t = (mxf (fun r => nI (dp H k (n r) - 1)) N, nI N))
    (fun m i s hi hI => by
      refine ⟨_, rfl, ?_⟩
      subst hI
      show mX8_wholeValue_L60 f (m + 1) _ (nI i) = mX8_wholeValue_L60 f m (if nI (dp H k (n i) - 1) ≤ mxf (fun r => nI (dp H k (n r) - 1)) i then mxf (fun r => nI (dp H k (n r) - 1)) i else nI (dp H k (n i) - 1)) _
      rw [mX8_wholeValue_L60, hR.2.2.1, if_neg (nI_ge hi (by omega)), name_c hR hn hi, Option.bind_some, roads_c hR h (hn.2.1 _ (hn.1.2.1 i hi)), Option.bind_some, Option.bind_some, roads_c hR h (hn.2.1 _ (hn.1.2.1 i hi)), Option.bind_some, nI_1]
      split <;> rfl)
    (fun m s hI => by
      refine ⟨_, rfl, ?_⟩
      subst hI
      show mX8_wholeValue_L60 f (m + 1) _ (nI N) = _
      rw [mX8_wholeValue_L60, hR.2.2.1, if_pos (nI_le (Nat.le_refl _) (by omega))])
    N FU 0 0 (by omega) (by unfold FU; omega) rfl
  rw [ht] at e
  exact e
theorem best_c (hR : Rf f H k N n W) (hT : Tn H k C N n W) : mX8_bestOf f = some (bsf (svl (f 0) H k N n W) H).1 := by
  have hH := hT.1.le
  obtain ⟨t, ht, e⟩ := lpI (fun n i (s : Int32 × Int32) => mX8_bestOf_L6 f n s.1 s.2 (nI i)) H (fun i s => s = bsf (svl (f 0) H k N n W) i) (fun t => t = ((bsf (svl (f 0) H k N n W) H).1, (bsf (svl (f 0) H k N n W) H).2, nI H))
    (fun m i s hi hI => by
      refine ⟨_, rfl, ?_⟩
      subst hI
      show mX8_bestOf_L6 f (m + 1) _ _ (nI i) = mX8_bestOf_L6 f m (if _ ≤ _ then _ else nI i) (if _ ≤ _ then _ else _) _
      rw [mX8_bestOf_L6, hR.1, if_neg (nI_ge hi (by omega)), saves_c hR hT hi, Option.bind_some, nI_1])
    (fun m s hI => by
      refine ⟨_, rfl, ?_⟩
      subst hI
      show mX8_bestOf_L6 f (m + 1) _ _ (nI H) = _
      rw [mX8_bestOf_L6, hR.1, if_pos (nI_le (Nat.le_refl _) (by omega))])
    H FU 0 (-1, -1) (by omega) (by unfold FU; omega) rfl
  rw [ht] at e
  unfold mX8_bestOf
  rw [show mX8_bestOf_L6 f FU (-1) (-1) 0 = _ from e]
  rfl
theorem nval_c (hR : Rf f H k N n W) (h : Hs H k C) (hn : Ns N n W) {r : Nat} (hr : r < N) (p : Int32) : mX8_nameValue f (nI r) p = some (nvl H k n W r p) := by
  have hv := hn.2.1 _ (hn.1.2.1 r hr)
  unfold mX8_nameValue nvl
  rw [name_c hR hn hr, Option.bind_some]
  split
  · rw [lets_c hv.len hv.l31]
  split
  · rw [lof_c]
  split
  · rw [wgt_c hR hn hr]; rfl
  · rw [roads_c hR h hv]; rfl
theorem hval_c (hR : Rf f H k N n W) (h : Hs H k C) (hn : Ns N n W) {i : Nat} (hi : i < H) (p : Int32) : mX8_houseValue f (nI i) p = some (hvl H k N n W i p) := by
  have hv := h.v hi
  unfold mX8_houseValue hvl
  rw [pfx_c hR h hi, Option.bind_some]
  split
  · rw [lets_c hv.len hv.l31]
  split
  · rw [lof_c]
  split
  · rw [lbl_c hR h hi, Option.bind_some, lnm_c hv.len hv.l31 (h.lb8 hi)]
  split
  · rw [lbl_c hR h hi]; rfl
  split
  · rw [chl_c hR h hi]; rfl
  split
  · by_cases h1 : hm W (k i) = true
    · obtain ⟨e1, e2, -⟩ := findn_yes hR hn (hm_iff.mp h1)
      have := hn.2.2
      rw [e1, Option.bind_some, if_neg (q_neg (by omega)), if_pos h1]
    · rw [findn_no hR hn hv.l31 (hm_f.mp (by rw [← Bool.not_eq_true]; exact h1)), Option.bind_some, if_pos rfl, if_neg h1]
  split
  · rw [count_c hR hn hv]; rfl
  split
  · rw [wbelow_c hR hn hv]; rfl
  · rw [roads_c hR h hv]; rfl
def whv (tl : Int32) (f : Nat → Int32) (H : Nat) (k : Nat → Nat) (N : Nat) (n : Nat → Nat) (W : Nat → Int32) (p : Int32) : Int32 :=
  if p = 0 then nI N else if p = 1 then nI H else if p = 2 then f 0 else if p = 3 then cst H k N n W else if p = 4 then sm (fun j => nI (lb k j)) H else if p = 5 then mxf (fun j => nI (lb k j)) H
  else if p = 6 then mxf (fun r => nI (dp H k (n r) - 1)) N else if p = 7 then f 3 else if p = 8 then f 4 else if p = 9 then f 5 else if p = 10 then f 6 else tl
theorem whole_c (hR : Rf f H k N n W) (h : Hs H k C) (hn : Ns N n W) (tl p : Int32) : mX8_wholeValue tl f p = some (whv tl f H k N n W p) := by
  unfold mX8_wholeValue whv
  rw [letl_c hR h, way_c hR h hn, cost_c hR h hn, hR.2.2.1, hR.1]
  simp only [Option.bind_some]
  repeat' split
  all_goals rfl
end RefR
