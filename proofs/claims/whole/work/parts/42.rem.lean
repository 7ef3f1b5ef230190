/-! A name that goes; moves, evictions and weights. -/
section Rem
variable {ks ws : Nat → Int32} {f : Nat → Int32} {H : Nat} {k : Nat → Nat} {W : Nat → Int32} {C : Nat → Prop} {N : Nat} {n : Nat → Nat}
theorem cidle_c (hK : Kc ks ws H k W) (h : Hs H k C) {ca : Nat → Int32} {i : Nat} (hi : i < H) (hca : ca i = nI (ch H k i)) : mX5_isIdle ws ca (nI i) = if i ≠ 0 ∧ hm W (k i) = false ∧ ch H k i = 0 then 1 else 0 := by
  have hH := h.le
  have hc := ch_le H k i
  unfold mX5_isIdle
  rw [isHome_c hK h hi, at_nI ca (by omega) (by omega), hca]
  by_cases h0 : i = 0
  · rw [if_pos (show nI i ≤ 0 from nI_le (b := 0) (by omega) (by omega)), if_neg (fun h1 => h1.1 h0)]
  · rw [if_neg (nI_nle (by omega) (by omega))]
    by_cases h1 : hm W (k i) = true
    · rw [if_neg (by rw [ite01, h1]; decide), if_neg (fun h2 => by rw [h1] at h2; exact absurd h2.2.1 (by decide))]
    · have h1' := (Bool.not_eq_true _).mp h1
      rw [if_pos ((ite01 _).mpr h1')]
      by_cases h2 : ch H k i = 0
      · rw [h2, if_pos nI_0, if_pos ⟨h0, h1', rfl⟩]
      · rw [if_neg (nI_ne0 (by omega) (by omega)), if_neg (fun h3 => h2 h3.2.2)]
/-- houses are torn down on both sides -/
theorem tear (hn : Ns N n W) : ∀ (d : Nat) (H : Nat) (k : Nat → Nat) (C : Nat → Prop) (i : Nat) (ks ws ca pa f : Nat → Int32) (td : Int32) (m0 m1 mm : Nat), Tm H k C N n W i → lnN (k i) ≤ d → d ≤ 8 → Kc ks ws H k W → Rf f H k N n W →
    (∀ j, j ≤ i → ca j = nI (ch H k j)) → (∀ j, j ≤ i → pa j = nI (pr k j)) → d < m0 → d < m1 →
    ∃ (H' : Nat) (k' : Nat → Nat) (C' : Nat → Prop) (ks' ws' ca' f' : Nat → Int32) (c : Nat) (y2 y4 y3 : Int32), Tn H' k' C' N n W ∧ Kc ks' ws' H' k' W ∧ Rf f' H' k' N n W ∧
      mX5_dropName_L32 pa m0 (nI i) (nI (8 - d)) (nI H) td ks ws ca = some (y2, y4, nI H', td + nI c, ks', ws', ca') ∧
      mX8_removeName_L78 m1 (nI mm) (nI i) f = some (nI (mm + c), y3, f') ∧ ∀ j, j < 55 → j ≠ 2 → f' j = f j := by
  intro d
  induction d with
  | zero =>
    intro H k C i ks ws ca pa f td m0 m1 mm hT hd hd8 hK hR hca hpa hm0 hm1
    obtain ⟨m0, rfl⟩ : ∃ z, m0 = z + 1 := ⟨m0 - 1, by omega⟩
    obtain ⟨m1, rfl⟩ : ∃ z, m1 = z + 1 := ⟨m1 - 1, by omega⟩
    have h := hT.1
    have hi := hT.2.2.2.2.1
    have e0 := ln0 (h.v hi) (Nat.le_zero.mp hd)
    have i0 : i = 0 := h.en.inj hi h.pos (by rw [e0, h.k0])
    refine ⟨H, k, C, ks, ws, ca, f, 0, nI i, nI 8, nI i, hT.stop (Or.inl i0), hK, hR, ?_, ?_, fun _ _ _ => rfl⟩
    · rw [mX5_dropName_L32, if_pos (show (8 : Int32) ≤ nI (8 - 0) by decide +kernel)]
      rw [show td + nI 0 = td from Int32.add_zero td]
    · rw [mX8_removeName_L78, if_pos (show nI i ≤ 0 from nI_le (b := 0) (by omega) (by omega))]
      rfl
  | succ d ih =>
    intro H k C i ks ws ca pa f td m0 m1 mm hT hd hd8 hK hR hca hpa hm0 hm1
    obtain ⟨m0, rfl⟩ : ∃ z, m0 = z + 1 := ⟨m0 - 1, by omega⟩
    obtain ⟨m1, rfl⟩ : ∃ z, m1 = z + 1 := ⟨m1 - 1, by omega⟩
    have hTT := hT
    obtain ⟨h, -, hC, hW0, hi, hD, hM⟩ := hT
    have hH := h.le
    have hcl := ch_le H k i
    rw [mX5_dropName_L32, if_neg (show ¬ (8 : Int32) ≤ nI (8 - (d + 1)) from nI_ge (b := 8) (by omega) (by omega)), cidle_c hK h hi (hca i (Nat.le_refl _)), mX8_removeName_L78]
    by_cases h0 : i ≠ 0 ∧ hm W (k i) = false ∧ ch H k i = 0
    · obtain ⟨a0, a1, a2⟩ := h0
      have hp := pr_lt k (show 0 < i by omega)
      obtain ⟨ks', ws', b1, b2⟩ := cdrop_c hK h hi
      obtain ⟨f', c1, c2, c3, c4⟩ := rdrop_c hR h hi
      have hT' := hTT.step a0 a1 a2
      have hR' := hR.houses (f' := f') hn.2.2 c2 c3 c4
      have ek : delN k i (pr k i) = k (pr k i) := by
        unfold delN
        rw [if_pos hp]
      have hlb := h.lbp hi (by omega)
      rw [if_neg (show ¬ (if i ≠ 0 ∧ hm W (k i) = false ∧ ch H k i = 0 then (1 : Int32) else 0) = 0 by rw [if_pos ⟨a0, a1, a2⟩]; decide), b1]
      simp only [Option.bind_some]
      rw [at_nI pa (by omega) (by omega), hpa i (Nat.le_refl _), inc_nI ca _ (by omega) (by omega), Option.bind_some, nI_1]
      rw [if_neg (nI_nle (by omega) (by omega)), pfx_c hR h hi, Option.bind_some, findn_no hR hn (h.v hi).l31 (hm_f.mp a1), Option.bind_some, if_pos rfl, chl_c hR h hi, Option.bind_some, a2, if_pos nI_0, par_c hR h hi (by omega), Option.bind_some, c1, Option.bind_some, nI_1]
      obtain ⟨H', k', C', ks2, ws2, ca2, f2, c, y2, y4, y3, r1, r2, r3, r4, r5, r6⟩ := ih (H - 1) (delN k i) _ (pr k i) ks' ws' (upd ca (pr k i) (ca (pr k i) + -1)) pa f' (td + 1) m0 m1 (mm + 1) hT' (by rw [ek]; omega) (by omega) b2 hR'
        (fun j hj => by
          have e1 := ch_del0 h hi a0 a2 (show j < i by omega)
          have e2 := hca j (by omega)
          by_cases h5 : j = pr k i
          · rw [if_pos h5.symm] at e1
            rw [h5, upd_at, ← h5, e2, e1, q_m1]
          · rw [if_neg (fun e => h5 e.symm)] at e1
            rw [upd_of h5, e2, e1]
            rfl)
        (fun j hj => by rw [hpa j (by omega), pr_below k i (by omega)]) (by omega) (by omega)
      refine ⟨H', k', C', ks2, ws2, ca2, f2, c + 1, y2, y4, y3, r1, r2, r3, ?_, ?_, fun j h1 h2 => ?_⟩
      · rw [show 8 - (d + 1) + 1 = 8 - d by omega, r4, Int32.add_assoc, Int32.add_comm 1, nI_1]
      · rw [r5, show mm + 1 + c = mm + (c + 1) by omega]
      · rw [r6 j h1 h2, c4 j h1 h2]
    · refine ⟨H, k, C, ks, ws, ca, f, 0, nI i, nI (8 - (d + 1)), nI i, hTT.stop ?_, hK, hR, ?_, ?_, fun _ _ _ => rfl⟩
      · rcases Nat.eq_zero_or_pos i with h1 | h1
        · exact Or.inl h1
        · right
          by_cases h2 : hm W (k i) = true
          · exact Or.inl h2
          · right
            intro h3
            exact h0 ⟨by omega, (Bool.not_eq_true _).mp h2, h3⟩
      · rw [if_pos (show (if i ≠ 0 ∧ hm W (k i) = false ∧ ch H k i = 0 then (1 : Int32) else 0) = 0 by rw [if_neg h0]), show td + nI 0 = td from Int32.add_zero td]
      · rcases Nat.eq_zero_or_pos i with h1 | h1
        · rw [if_pos (show nI i ≤ 0 from nI_le (b := 0) (by omega) (by omega))]
          rfl
        · rw [if_neg (nI_nle h1 (by omega)), pfx_c hR h hi, Option.bind_some]
          by_cases h2 : hm W (k i) = true
          · obtain ⟨e1, e2, -⟩ := findn_yes hR hn (hm_iff.mp h2)
            have := hn.2.2
            rw [e1, Option.bind_some, if_neg (q_neg (by omega))]
            rfl
          · have h2' := (Bool.not_eq_true _).mp h2
            rw [findn_no hR hn (h.v hi).l31 (hm_f.mp h2'), Option.bind_some, if_pos rfl, chl_c hR h hi, Option.bind_some, if_neg (nI_ne0 (by
              rcases Nat.eq_zero_or_pos (ch H k i) with h3 | h3
              · exact absurd ⟨by omega, h2', h3⟩ h0
              · exact h3) (by omega))]
            rfl
/-- names are shifted for one less -/
theorem rshl_c {p : Nat} (hp : p < N) (hN : N ≤ 24) (g : Nat → Int32) (hg : g 1 = nI N) : ∃ (y : Int32) (g' : Nat → Int32), mX8_removeName_L6 FU (nI p) g = some (y, g') ∧ (∀ j, j < 7 ∨ 55 ≤ j → g' j = g j) ∧ (∀ j, j < p → g' (7 + j) = g (7 + j) ∧ g' (31 + j) = g (31 + j)) ∧ ∀ j, p ≤ j → j < N - 1 → g' (7 + j) = g (7 + (j + 1)) ∧ g' (31 + j) = g (31 + (j + 1)) := by
  obtain ⟨t, ht, e⟩ := lpI (fun m i (s : Nat → Int32) => mX8_removeName_L6 m (nI i) s) (N - 1) (fun i s => p ≤ i ∧ (∀ j, j < 7 ∨ 55 ≤ j → s j = g j) ∧ (∀ j, j < p → s (7 + j) = g (7 + j) ∧ s (31 + j) = g (31 + j)) ∧ (∀ j, p ≤ j → j < i → s (7 + j) = g (7 + (j + 1)) ∧ s (31 + j) = g (31 + (j + 1))) ∧ ∀ j, i ≤ j → j < 24 → s (7 + j) = g (7 + j) ∧ s (31 + j) = g (31 + j))
    (fun t => (∀ j, j < 7 ∨ 55 ≤ j → t.2 j = g j) ∧ (∀ j, j < p → t.2 (7 + j) = g (7 + j) ∧ t.2 (31 + j) = g (31 + j)) ∧ ∀ j, p ≤ j → j < N - 1 → t.2 (7 + j) = g (7 + (j + 1)) ∧ t.2 (31 + j) = g (31 + (j + 1)))
    (fun m i s hi hI => by
      obtain ⟨i1, i2, i3, i4, i5⟩ := hI
      refine ⟨upd (upd s (7 + i) (s (7 + (i + 1)))) (31 + i) (s (31 + (i + 1))), ⟨by omega, fun j hj => ?_, fun j hj => ?_, fun j h1 h2 => ?_, fun j h1 h2 => ?_⟩, ?_⟩
      · rw [upd_of (by omega), upd_of (by omega), i2 j hj]
      · rw [upd_of (by omega), upd_of (by omega), upd_of (by omega), upd_of (by omega)]
        exact i3 j hj
      · rcases Nat.lt_or_ge j i with h3 | h3
        · rw [upd_of (by omega), upd_of (by omega), upd_of (by omega), upd_of (by omega)]
          exact i4 j h1 h3
        · have : j = i := by omega
          subst this
          rw [upd_of (show 7 + j ≠ 31 + j by omega), upd_at, upd_at]
          exact i5 (j + 1) (by omega) (by omega)
      · rw [upd_of (by omega), upd_of (by omega), upd_of (by omega), upd_of (by omega)]
        exact i5 j (by omega) h2
      · show mX8_removeName_L6 (m + 1) (nI i) s = mX8_removeName_L6 m (nI (i + 1)) _
        rw [mX8_removeName_L6]
        unfold mX8_name
        rw [i2 1 (by omega), hg, nI_1, if_neg (nI_ge (by omega) (by omega)), show (7 : Int32) + nI (i + 1) = nI (7 + (i + 1)) from nI_add 7 _, rd_nI s (by omega) (by omega), Option.bind_some, Option.bind_some, show (7 : Int32) + nI i = nI (7 + i) from nI_add 7 _, wr_nI s _ (by omega) (by omega), Option.bind_some, show (31 : Int32) + nI i = nI (31 + i) from nI_add 31 _, nI_1, rd_nI _ (by omega) (by omega), Option.bind_some, wr_nI _ _ (by omega) (by omega), Option.bind_some, upd_of (show 31 + i + 1 ≠ 7 + i by omega)]
        rfl)
    (fun m s hI => by
      obtain ⟨i1, i2, i3, i4, i5⟩ := hI
      refine ⟨(nI (N - 1), s), ⟨i2, i3, i4⟩, ?_⟩
      show mX8_removeName_L6 (m + 1) (nI (N - 1)) s = _
      rw [mX8_removeName_L6, i2 1 (by omega), hg, nI_1, if_pos (nI_le (by omega) (by omega))])
    (N - 1 - p) FU p g (by omega) (by unfold FU; omega) ⟨Nat.le_refl _, fun _ _ => rfl, fun j hj => ⟨rfl, rfl⟩, fun j h1 h2 => by omega, fun j _ _ => ⟨rfl, rfl⟩⟩
  exact ⟨t.1, t.2, e, ht⟩
theorem rem_c {pa ca ra ni wi ho : Nat → Int32} (hT : Tn H k C N n W) (hK : Kc ks ws H k W) (hS : Sv H k N n W pa ca ra ni wi ho) (hR : Rf f H k N n W) {x : Nat} (hx : ¬ W x = -1) (td : Int32) :
    ∃ (H' : Nat) (k' : Nat → Nat) (C' : Nat → Prop) (ks' ws' pa' ca' ra' ni' wi' ho' f' : Nat → Int32) (c : Nat),
      mX5_dropName (nI H) td ks ws pa ca ra ni wi ho (nI x) = some (nI c, nI H', td + nI c, ks', ws', pa', ca', ra', ni', wi', ho') ∧ mX8_removeName f (nI x) = some (nI c, f') ∧
      Tn H' k' C' (N - 1) (delN n (plc N n x)) (fun y => if y = x then -1 else W y) ∧ Kc ks' ws' H' k' (fun y => if y = x then -1 else W y) ∧ Sv H' k' (N - 1) (delN n (plc N n x)) (fun y => if y = x then -1 else W y) pa' ca' ra' ni' wi' ho' ∧
      Rf f' H' k' (N - 1) (delN n (plc N n x)) (fun y => if y = x then -1 else W y) ∧ f' 0 = f 0 ∧ f' 3 = f 3 ∧ f' 4 = f 4 ∧ f' 5 = f 5 ∧ f' 6 = f 6 + nI c := by
  have hTm := Tm.start hT hx
  have h := hT.1
  have hH := h.le
  have hn := hT.2.1
  have hv := hn.2.1 x hx
  have cx := hT.2.2.1 x hx
  obtain ⟨p1, p2⟩ := h.ixe cx
  obtain ⟨e1, q1, q2⟩ := findn_yes hR hn hx
  obtain ⟨y6, g, d1, d2, d3, d4⟩ := rshl_c q1 hn.2.2 f hR.2.2.1
  have hK1 : Kc ks (upd ws (plc H k x) (-1)) H k (fun y => if y = x then -1 else W y) := by
    intro i hi
    refine ⟨(hK i hi).1, ?_⟩
    by_cases h3 : i = plc H k x
    · rw [h3, upd_at]
      show -1 = if k (plc H k x) = x then -1 else _
      rw [if_pos p2]
    · rw [upd_of h3, (hK i hi).2]
      show _ = if k i = x then -1 else _
      rw [if_neg (fun e5 => h3 (h.en.inj hi p1 (by rw [e5, p2])))]
  have hR1 : Rf (upd g 1 (g 1 - 1)) H k (N - 1) (delN n (plc N n x)) (fun y => if y = x then -1 else W y) := by
    have := hn.2.2
    have hnx : ∀ q, q < N → q ≠ plc N n x → n q ≠ x := fun q hq hne e6 => hne (hn.1.inj hq q1 (by rw [e6, q2]))
    refine ⟨?_, fun i hi => ?_, ?_, fun r hr => ?_, fun r hr => ?_⟩
    · rw [upd_of (by omega), d2 2 (by omega)]
      exact hR.1
    · rw [upd_of (by omega), d2 _ (by omega)]
      exact hR.2.1 i hi
    · rw [upd_at, d2 1 (by omega), hR.2.2.1, ← nI_pred (N - 1), show N - 1 + 1 = N by omega]
    · rw [upd_of (by omega)]
      unfold delN
      by_cases h3 : r < plc N n x
      · rw [if_pos h3, (d3 r h3).1]
        exact hR.2.2.2.1 r (by omega)
      · rw [if_neg h3, (d4 r (by omega) hr).1]
        exact hR.2.2.2.1 (r + 1) (by omega)
    · rw [upd_of (by omega)]
      show _ = if delN n (plc N n x) r = x then -1 else W (delN n (plc N n x) r)
      unfold delN
      by_cases h3 : r < plc N n x
      · rw [if_pos h3, (d3 r h3).2, if_neg (hnx r (by omega) (by omega))]
        exact hR.2.2.2.2 r (by omega)
      · rw [if_neg h3, (d4 r (by omega) hr).2, if_neg (hnx (r + 1) (by omega) (by omega))]
        exact hR.2.2.2.2 (r + 1) (by omega)
  obtain ⟨H', k', C', ks', ws', ca', f', c, y2, y4, y3, r1, r2, r3, r4, r5, r6⟩ := tear hTm.2.1 8 H k C (plc H k x) ks (upd ws (plc H k x) (-1)) ca pa (upd g 1 (g 1 - 1)) td FU FU 0 hTm (by rw [p2]; exact hv.len) (Nat.le_refl _) hK1 hR1 (fun j hj => (hS.1 j (by omega)).2.1) (fun j hj => (hS.1 j (by omega)).1) (by unfold FU; omega) (by unfold FU; omega)
  obtain ⟨pa', ca2, ra', ni', wi', ho', e5, e6⟩ := survey_c r2 r1.1 r1.2.1 r1.2.2.1 pa ca' ra ni wi ho
  refine ⟨H', k', C', ks', ws', pa', ca2, ra', ni', wi', ho', upd f' 6 (f' 6 + nI c), c, ?_, ?_, r1, r2, e6, r3.upd_of r1.2.1.2.2 (by omega) _, ?_, ?_, ?_, ?_, ?_⟩
  · unfold mX5_dropName
    rw [(index_c hK h hv.l31).1 cx, Option.bind_some, put_nI ws _ (by omega) (by omega), Option.bind_some, show mX5_dropName_L32 pa FU (nI (plc H k x)) 0 (nI H) td ks (upd ws (plc H k x) (-1)) ca = _ from r4]
    simp only [Option.bind_some]
    rw [e5]
    simp only [Option.bind_some]
    rw [Int32.add_comm td, Int32.add_sub_cancel]
  · unfold mX8_removeName
    rw [e1, Option.bind_some, d1]
    simp only [Option.bind_some]
    rw [(findh_c hR1 h hv.l31).1 cx, Option.bind_some, show mX8_removeName_L78 FU 0 (nI (plc H k x)) (upd g 1 (g 1 - 1)) = _ from r5]
    simp only [Option.bind_some]
    rw [Nat.zero_add]
  · rw [upd_of (by omega), r6 _ (by omega) (by omega), upd_of (by omega), d2 _ (by omega)]
  · rw [upd_of (by omega), r6 _ (by omega) (by omega), upd_of (by omega), d2 _ (by omega)]
  · rw [upd_of (by omega), r6 _ (by omega) (by omega), upd_of (by omega), d2 _ (by omega)]
  · rw [upd_of (by omega), r6 _ (by omega) (by omega), upd_of (by omega), d2 _ (by omega)]
  · rw [upd_at, r6 _ (by omega) (by omega), upd_of (by omega), d2 _ (by omega)]
/-- a weight that is set -/
theorem wset_c (hT : Tn H k C N n W) (hK : Kc ks ws H k W) (hR : Rf f H k N n W) {x : Nat} (hx : ¬ W x = -1) {w : Int32} (hw : ¬ w = -1) (pa ca ra ni wi ho : Nat → Int32) :
    ∃ (ws' pa' ca' ra' ni' wi' ho' f' : Nat → Int32),
      mX5_changeWeight (nI H) ks ws pa ca ra ni wi ho (nI x) w = some (W x, ws', pa', ca', ra', ni', wi', ho') ∧
      mX8_findName f (nI x) = some (nI (plc N n x)) ∧ rdA 255 f (31 + nI (plc N n x)) = some (W x) ∧ wrA 255 f (31 + nI (plc N n x)) w = some f' ∧
      Tn H k C N n (fun y => if y = x then w else W y) ∧ Kc ks ws' H k (fun y => if y = x then w else W y) ∧ Sv H k N n (fun y => if y = x then w else W y) pa' ca' ra' ni' wi' ho' ∧
      Rf f' H k N n (fun y => if y = x then w else W y) ∧ f' 0 = f 0 ∧ ∀ j, j < 7 → f' j = f j := by
  have hT' := hT.weigh hx hw
  have h := hT.1
  have hH := h.le
  have hn := hT.2.1
  have hN := hn.2.2
  have hv := hn.2.1 x hx
  have cx := hT.2.2.1 x hx
  obtain ⟨p1, p2⟩ := h.ixe cx
  obtain ⟨e1, q1, q2⟩ := findn_yes hR hn hx
  have hK1 : Kc ks (upd ws (plc H k x) w) H k (fun y => if y = x then w else W y) := by
    intro i hi
    refine ⟨(hK i hi).1, ?_⟩
    by_cases h3 : i = plc H k x
    · rw [h3, upd_at]
      show w = if k (plc H k x) = x then w else _
      rw [if_pos p2]
    · rw [upd_of h3, (hK i hi).2]
      show _ = if k i = x then w else _
      rw [if_neg (fun e5 => h3 (h.en.inj hi p1 (by rw [e5, p2])))]
  obtain ⟨pa', ca', ra', ni', wi', ho', e5, e6⟩ := survey_c hK1 h hT'.2.1 hT'.2.2.1 pa ca ra ni wi ho
  refine ⟨_, pa', ca', ra', ni', wi', ho', upd f (31 + plc N n x) w, ?_, e1, ?_, ?_, hT', hK1, e6, ⟨?_, fun i hi => ?_, ?_, fun r hr => ?_, fun r hr => ?_⟩, upd_of (by omega), fun j hj => upd_of (by omega)⟩
  · unfold mX5_changeWeight
    rw [(index_c hK h hv.l31).1 cx, Option.bind_some, put_nI ws _ (by omega) (by omega), Option.bind_some, e5]
    simp only [Option.bind_some]
    rw [hK.wgt h p1, p2]
  · rw [wgt_c hR hn q1, q2]
  · rw [show (31 : Int32) + nI (plc N n x) = nI (31 + plc N n x) from nI_add 31 _, wr_nI f _ (by omega) (by omega)]
  · rw [upd_of (by omega)]
    exact hR.1
  · rw [upd_of (by omega)]
    exact hR.2.1 i hi
  · rw [upd_of (by omega)]
    exact hR.2.2.1
  · rw [upd_of (by omega)]
    exact hR.2.2.2.1 r hr
  · show _ = if n r = x then w else W (n r)
    by_cases h3 : r = plc N n x
    · rw [h3, upd_at, if_pos q2]
    · rw [upd_of (by omega), if_neg (fun e7 => h3 (hn.1.inj hr q1 (by rw [e7, q2])))]
      exact hR.2.2.2.2 r hr
/-- a house that moves in -/
theorem why_0 {L : Int32} {i : Nat} (hw : why L H k W i = 0) : i ≠ 0 ∧ hm W (k i) = false ∧ ch H k i ≤ 1 ∧ nI (lb k i + lb k (i + 1)) ≤ L := by
  unfold why at hw
  split at hw
  · exact absurd hw (by decide)
  rename_i h0
  split at hw
  · exact absurd hw (by decide)
  rename_i h1
  split at hw
  · rename_i h2
    split at hw
    · rename_i h3
      exact ⟨h0, (Bool.not_eq_true _).mp h1, h2, h3⟩
    · exact absurd hw (by decide)
  · exact absurd hw (by decide)
theorem rmove_c (hT : Tn H k C N n W) (hR : Rf f H k N n W) {i : Nat} (hi : i < H) (hw : why (f 0) H k W i = 0) :
    ∃ f', mX8_moves f (nI i) = some (nI (lb k i + lb k (i + 1)), f') ∧ Tn (H - 1) (delN k i) (fun y => C y ∧ y ≠ k i) N n W ∧ Rf f' (H - 1) (delN k i) N n W ∧ f' 0 = f 0 ∧ f' 3 = f 3 + 1 ∧ f' 4 = f 4 ∧ f' 5 = f 5 ∧ f' 6 = f 6 := by
  obtain ⟨w0, w1, w2, w3⟩ := why_0 hw
  obtain ⟨x1, x2⟩ := hT.nx hi w0 w1
  have hT' := hT.drop hi w0 w1 w2
  obtain ⟨f', c1, c2, c3, c4⟩ := rdrop_c hR hT.1 hi
  have hR' := (hR.houses (f' := f') hT.2.1.2.2 c2 c3 c4).upd_of (i := 3) hT.2.1.2.2 (by omega) (f' 3 + 1)
  refine ⟨upd f' 3 (f' 3 + 1), ?_, hT', hR', ?_, ?_, ?_, ?_, ?_⟩
  · unfold mX8_moves
    rw [lbl_c hR hT.1 hi, Option.bind_some, nI_1, lbl_c hR hT.1 x1, Option.bind_some, c1, Option.bind_some, nI_add]
  · rw [upd_of (by omega), c4 _ (by omega) (by omega)]
  · rw [upd_at, c4 _ (by omega) (by omega)]
  · rw [upd_of (by omega), c4 _ (by omega) (by omega)]
  · rw [upd_of (by omega), c4 _ (by omega) (by omega)]
  · rw [upd_of (by omega), c4 _ (by omega) (by omega)]
theorem cmove_c {pa ca ra ni wi ho : Nat → Int32} (hT : Tn H k C N n W) (hK : Kc ks ws H k W) (hS : Sv H k N n W pa ca ra ni wi ho) {x : Nat} (hx : C x) (L : Int32) (hw : why L H k W (plc H k x) = 0) (mv : Int32) :
    ∃ (ks' ws' pa' ca' ra' ni' wi' ho' : Nat → Int32),
      mX5_move (nI H) mv ks ws pa ca ra ni wi ho (nI x) = some (nI (lb k (plc H k x) + lb k (plc H k x + 1)), nI (H - 1), mv + 1, ks', ws', pa', ca', ra', ni', wi', ho') ∧
      Kc ks' ws' (H - 1) (delN k (plc H k x)) W ∧ Sv (H - 1) (delN k (plc H k x)) N n W pa' ca' ra' ni' wi' ho' := by
  have h := hT.1
  obtain ⟨p1, p2⟩ := h.ixe hx
  obtain ⟨w0, w1, w2, w3⟩ := why_0 hw
  obtain ⟨x1, x2⟩ := hT.nx p1 w0 w1
  have hT' := hT.drop p1 w0 w1 w2
  obtain ⟨ks', ws', b1, b2⟩ := cdrop_c hK h p1
  obtain ⟨pa', ca', ra', ni', wi', ho', e5, e6⟩ := survey_c b2 hT'.1 hT'.2.1 hT'.2.2.1 pa ca ra ni wi ho
  refine ⟨ks', ws', pa', ca', ra', ni', wi', ho', ?_, b2, e6⟩
  unfold mX5_move
  rw [(index_c hK h (h.2.2.1 x hx).l31).1 hx, Option.bind_some, b1]
  simp only [Option.bind_some]
  rw [e5]
  simp only [Option.bind_some]
  have e : mX5_labelBehindMove ks pa (nI (plc H k x)) = nI (lb k (plc H k x) + lb k (plc H k x + 1)) := by
    have l1 := h.lbp p1 (by omega)
    have l2 := h.lbp x1 (by omega)
    have hpl := pr_le k (plc H k x)
    rw [x2] at l2
    unfold mX5_labelBehindMove mX5_lengthFromParent
    rw [nI_1, hK.key h x1, hS.apa h p1, hK.key h (by omega), len_c, len_c, q_sub (by omega)]
    unfold lb
    rw [x2]
    congr 1
    omega
  rw [e]
/-- a house that is evicted -/
theorem revict_c (hT : Tn H k C N n W) (hR : Rf f H k N n W) {x c : Nat} (hv : VN x) (hx : ¬ C x) (hc : C c) (hb : bgN x c) :
    ∃ f', mX8_evicts f (nI x) = some (nI (lb (insN k (plc H k x) x) (plc (H + 1) (insN k (plc H k x) x) x + 1)), f') ∧ Rf f' (H + 1) (insN k (plc H k x) x) N n W ∧ f' 0 = f 0 ∧ f' 3 = f 3 ∧ f' 4 = f 4 + 1 ∧ f' 5 = f 5 ∧ f' 6 = f 6 := by
  have hT' := hT.evict hv hx hc hb
  obtain ⟨f', c1, c2, c3, c4⟩ := radd_c hR hT.1 hv hx hT'.1.le
  have hR' := (hR.houses (f' := f') hT.2.1.2.2 c2 c3 c4).upd_of (i := 4) hT.2.1.2.2 (by omega) (f' 4 + 1)
  have cx : (fun y => C y ∨ y = x) x := Or.inr rfl
  obtain ⟨p1, p2⟩ := hT'.1.ixe cx
  have x0 : x ≠ 0 := fun e => hx (by rw [e]; exact hT.1.2.1)
  have hW : hm W x = false := by
    rw [hm_f]
    rcases Classical.em (W x = -1) with h3 | h3
    · exact h3
    · exact absurd (hT.2.2.1 _ h3) hx
  obtain ⟨x1, x2⟩ := hT'.nx p1 (fun e => x0 (by
    rw [e, hT'.1.k0] at p2
    exact p2.symm)) (by rw [p2]; exact hW)
  refine ⟨upd f' 4 (f' 4 + 1), ?_, hR', ?_, ?_, ?_, ?_, ?_⟩
  · unfold mX8_evicts
    rw [c1, Option.bind_some, (findh_c hR' hT'.1 hv.l31).1 cx, Option.bind_some, nI_1, lbl_c hR' hT'.1 x1, Option.bind_some]
  · rw [upd_of (by omega), c4 _ (by omega) (by omega)]
  · rw [upd_of (by omega), c4 _ (by omega) (by omega)]
  · rw [upd_at, c4 _ (by omega) (by omega)]
  · rw [upd_of (by omega), c4 _ (by omega) (by omega)]
  · rw [upd_of (by omega), c4 _ (by omega) (by omega)]
theorem cevict_c (hT : Tn H k C N n W) (hK : Kc ks ws H k W) {x c : Nat} (hv : VN x) (hx : ¬ C x) (hc : C c) (hb : bgN x c) (ev : Int32) (pa ca ra ni wi ho : Nat → Int32) :
    ∃ (ks' ws' pa' ca' ra' ni' wi' ho' : Nat → Int32),
      mX5_part (nI H) ev ks ws pa ca ra ni wi ho (nI x) = some (nI (lb (insN k (plc H k x) x) (plc (H + 1) (insN k (plc H k x) x) x + 1)), nI (H + 1), ev + 1, ks', ws', pa', ca', ra', ni', wi', ho') ∧
      Kc ks' ws' (H + 1) (insN k (plc H k x) x) W ∧ Sv (H + 1) (insN k (plc H k x) x) N n W pa' ca' ra' ni' wi' ho' := by
  have hT' := hT.evict hv hx hc hb
  have hW : W x = -1 := by
    rcases Classical.em (W x = -1) with h3 | h3
    · exact h3
    · exact absurd (hT.2.2.1 _ h3) hx
  obtain ⟨ks', ws', b1, b2⟩ := cins_c hK hT.1 hv hx hW hT'.1.le
  obtain ⟨pa', ca', ra', ni', wi', ho', e5, e6⟩ := survey_c b2 hT'.1 hT'.2.1 hT'.2.2.1 pa ca ra ni wi ho
  have cx : (fun y => C y ∨ y = x) x := Or.inr rfl
  obtain ⟨p1, p2⟩ := hT'.1.ixe cx
  have x0 : x ≠ 0 := fun e => hx (by rw [e]; exact hT.1.2.1)
  obtain ⟨x1, x2⟩ := hT'.nx p1 (fun e => x0 (by
    rw [e, hT'.1.k0] at p2
    exact p2.symm)) (by rw [p2]; exact hm_f.mpr hW)
  refine ⟨ks', ws', pa', ca', ra', ni', wi', ho', ?_, b2, e6⟩
  unfold mX5_part
  rw [b1]
  simp only [Option.bind_some]
  rw [e5]
  simp only [Option.bind_some]
  rw [(index_c b2 hT'.1 hv.l31).1 cx, Option.bind_some, nI_1, clabel_c b2 e6 hT'.1 x1]
end Rem
