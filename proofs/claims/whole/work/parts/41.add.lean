/-! A name that comes. -/
section Add
variable {ks ws : Nat → Int32} {f : Nat → Int32} {H : Nat} {k : Nat → Nat} {W : Nat → Int32} {C : Nat → Prop} {N : Nat} {n : Nat → Nat}
theorem Kc.congr {k' : Nat → Nat} {W' : Nat → Int32} (hK : Kc ks ws H k W) (h : ∀ i, i < H → k i = k' i) (hW : ∀ i, i < H → W (k i) = W' (k i)) : Kc ks ws H k' W' := fun i hi => by
  rw [← h i hi, ← hW i hi]
  exact hK i hi
theorem Rf.congr {k' n' : Nat → Nat} (hR : Rf f H k N n W) (h : ∀ i, i < H → k i = k' i) (h2 : ∀ i, i < N → n i = n' i) : Rf f H k' N n' W :=
  ⟨hR.1, fun i hi => by rw [← h i hi]; exact hR.2.1 i hi, hR.2.2.1, fun r hr => by rw [← h2 r hr]; exact hR.2.2.2.1 r hr, fun r hr => by rw [← h2 r hr]; exact hR.2.2.2.2 r hr⟩
theorem addC_succ (C : Nat → Prop) {x kl l : Nat} (hl : kl ≤ l + 1) (y : Nat) : addC C x kl (l + 1) y ↔ (addC C x kl l y ∨ y = ctN x (l + 1)) := by
  unfold addC
  constructor
  · intro h
    rcases h with h | ⟨j, h1, h2, e⟩
    · exact Or.inl (Or.inl h)
    · rcases Nat.lt_or_ge l j with h3 | h3
      · have : j = l + 1 := by omega
        subst this
        exact Or.inr e
      · exact Or.inl (Or.inr ⟨j, h1, h3, e⟩)
  · intro h
    rcases h with h | h
    · rcases h with h | ⟨j, h1, h2, e⟩
      · exact Or.inl h
      · exact Or.inr ⟨j, h1, by omega, e⟩
    · exact Or.inr ⟨l + 1, hl, Nat.le_refl _, h⟩
theorem addC_self (C : Nat → Prop) (x kl : Nat) (y : Nat) : addC C x kl kl y ↔ (C y ∨ y = ctN x kl) := by
  unfold addC
  constructor
  · intro h
    rcases h with h | ⟨j, h1, h2, e⟩
    · exact Or.inl h
    · have : j = kl := by omega
      subst this
      exact Or.inr e
  · intro h
    rcases h with h | h
    · exact Or.inl h
    · exact Or.inr ⟨kl, Nat.le_refl _, Nat.le_refl _, h⟩
theorem addC_hs (hT : Tn H k C N n W) {x : Nat} (hv : VN x) (hx : W x = -1) (hN : N < 24) {l : Nat} (hl : l ≤ lnN x) {kl H' : Nat} {k' : Nat → Nat} (hE : En H' k' (addC C x kl l)) : Hs H' k' (addC C x kl l) := by
  obtain ⟨h, hn, hC, hW0, hD, hM⟩ := hT
  have h8 := hv.len
  have eW : ∀ y, (¬ (if y = x then 0 else W y) = -1) ↔ (¬ W y = -1 ∨ y = x) := by
    intro y
    by_cases h2 : y = x
    · rw [if_pos h2]
      exact ⟨fun _ => Or.inr h2, fun _ => by decide⟩
    · rw [if_neg h2]
      exact ⟨Or.inl, fun h3 => h3.elim id (fun h4 => absurd h4 h2)⟩
  have hV : ∀ y, addC C x kl l y → VN y := by
    intro y hy
    rcases hy with hy | ⟨j, hj1, hj2, e⟩
    · exact h.2.2.1 y hy
    · rw [e]
      exact ct_VN hv.lt (by omega)
  have hn' : Ns (N + 1) (insN n (plc N n x) x) (fun y => if y = x then 0 else W y) := by
    refine ⟨(hn.1.ins (fun h2 => h2 hx)).congr (fun y => (eW y).symm), fun y hy => ?_, by omega⟩
    rcases (eW y).mp hy with h2 | h2
    · exact hn.2.1 y h2
    · rw [h2]; exact hv
  refine ⟨hE, Or.inl h.2.1, hV, Tn.le193 hE hV hn' (fun y hy h0 => ?_)⟩
  rcases hy with hy | ⟨j, hj1, hj2, e⟩
  · obtain ⟨z, hz, hb⟩ := hD y hy h0
    exact ⟨z, (eW z).mpr (Or.inl hz), hb⟩
  · refine ⟨x, (eW x).mpr (Or.inr rfl), ?_⟩
    rw [e]
    exact ct_bg hv (by omega)
theorem addC_new (hT : Tn H k C N n W) {x : Nat} (hv : VN x) {l : Nat} (h1 : knl N n x (lnN x) ≤ l) (h2 : l + 1 ≤ lnN x) : ¬ addC C x (knl N n x (lnN x)) l (ctN x (l + 1)) ∧ W (ctN x (l + 1)) = -1 := by
  have h8 := hv.len
  have hnC : ¬ C (ctN x (l + 1)) := by
    intro h3
    apply knl_max (N := N) (n := n) (x := x) (lnN x) (l + 1) (by omega) h2
    rw [hT.tb (ct_VN hv.lt (by omega))]
    obtain ⟨j, hj, e⟩ := hT.1.en.2.2 _ h3
    exact ⟨j, hj, by rw [e]; exact bg_rfl _⟩
  refine ⟨fun h3 => ?_, ?_⟩
  · rcases h3 with h3 | ⟨j, h4, h5, e⟩
    · exact hnC h3
    · have e1 := ct_len (k := x) (l := j) (by omega)
      have e2 := ct_len (k := x) (l := l + 1) (by omega)
      rw [e, e1] at e2
      omega
  · rcases Classical.em (W (ctN x (l + 1)) = -1) with h3 | h3
    · exact h3
    · exact absurd (hT.2.2.1 _ h3) hnC
/-- the loop of the class -/
theorem ctl_c (hT : Tn H k C N n W) {x : Nat} (hv : VN x) (hx : W x = -1) (hN : N < 24) {H1 : Nat} {k1 : Nat → Nat} (hE : En H1 k1 (addC C x (knl N n x (lnN x)) (knl N n x (lnN x)))) (hK : Kc ks ws H1 k1 W) (b0 : Int32) :
    ∃ (y6 : Int32) (H' : Nat) (k' : Nat → Nat) (ks' ws' : Nat → Int32), mX5_takeName_L61 (nI (lnN x)) (nI x) FU (nI (knl N n x (lnN x)) + 1) (nI H1) b0 ks ws = some (y6, nI H', b0 + nI (lnN x - knl N n x (lnN x)), ks', ws') ∧ En H' k' (addC C x (knl N n x (lnN x)) (lnN x)) ∧ Kc ks' ws' H' k' W := by
  have h8 := hv.len
  have kle := knl_le (N := N) (n := n) x (lnN x)
  have hnew := fun l => addC_new hT hv (l := l)
  generalize knl N n x (lnN x) = kl at *
  obtain ⟨t, ht, e⟩ := lpI (fun m i (s : Int32 × Int32 × (Nat → Int32) × (Nat → Int32)) => mX5_takeName_L61 (nI (lnN x)) (nI x) m (nI i) s.1 s.2.1 s.2.2.1 s.2.2.2) (lnN x + 1) (fun i s => kl + 1 ≤ i ∧ ∃ H' k', s.1 = nI H' ∧ s.2.1 = b0 + nI (i - (kl + 1)) ∧ En H' k' (addC C x kl (i - 1)) ∧ Kc s.2.2.1 s.2.2.2 H' k' W)
    (fun t => ∃ H' k', t.2.1 = nI H' ∧ t.2.2.1 = b0 + nI (lnN x - kl) ∧ En H' k' (addC C x kl (lnN x)) ∧ Kc t.2.2.2.1 t.2.2.2.2 H' k' W)
    (fun m i s hi hI => by
      obtain ⟨i1, H', k', e1, e2, e3, e4⟩ := hI
      have hHs := addC_hs hT hv hx hN (show i - 1 ≤ lnN x by omega) e3
      have vi := ct_VN (k := x) (l := i) hv.lt (by omega)
      obtain ⟨n1, n2⟩ := hnew (i - 1) (by omega) (by omega)
      rw [show i - 1 + 1 = i by omega] at n1 n2
      have eE : En (H' + 1) (insN k' (plc H' k' (ctN x i)) (ctN x i)) (addC C x kl i) := (e3.ins n1).congr (fun y => by
        have := addC_succ C (x := x) (kl := kl) (l := i - 1) (by omega) y
        rw [show i - 1 + 1 = i by omega] at this
        exact this.symm)
      have hHs' := addC_hs hT hv hx hN (show i ≤ lnN x by omega) eE
      obtain ⟨ks', ws', f1, f2⟩ := cins_c e4 hHs vi n1 n2 hHs'.le
      refine ⟨(nI (H' + 1), s.2.1 + 1, ks', ws'), ⟨by omega, H' + 1, _, rfl, ?_, by rw [Nat.add_sub_cancel]; exact eE, f2⟩, ?_⟩
      · show s.2.1 + 1 = _
        rw [e2, Int32.add_assoc, nI_1]
        congr 2
        omega
      · show mX5_takeName_L61 (nI (lnN x)) (nI x) (m + 1) (nI i) s.1 s.2.1 s.2.2.1 s.2.2.2 = mX5_takeName_L61 (nI (lnN x)) (nI x) m (nI (i + 1)) (nI (H' + 1)) (s.2.1 + 1) ks' ws'
        rw [mX5_takeName_L61, if_neg (nI_nlt (by omega) (by omega)), cut_c (by omega) hv.l31, e1, f1]
        simp only [Option.bind_some]
        rw [nI_1])
    (fun m s hI => by
      obtain ⟨i1, H', k', e1, e2, e3, e4⟩ := hI
      refine ⟨(nI (lnN x + 1), s), ⟨H', k', e1, ?_, by rw [Nat.add_sub_cancel] at e3; exact e3, e4⟩, ?_⟩
      · show s.2.1 = _
        rw [e2]
        congr 2
        omega
      · show mX5_takeName_L61 (nI (lnN x)) (nI x) (m + 1) (nI (lnN x + 1)) s.1 s.2.1 s.2.2.1 s.2.2.2 = _
        rw [mX5_takeName_L61, if_pos (nI_lt (by omega) (by omega))])
    (lnN x - kl) FU (kl + 1) (nI H1, b0, ks, ws) (by omega) (by unfold FU; omega) ⟨Nat.le_refl _, H1, k1, rfl, by rw [Nat.sub_self]; exact (Int32.add_zero b0).symm, by rw [Nat.add_sub_cancel]; exact hE, hK⟩
  obtain ⟨H', k', t1, t2, t3, t4⟩ := ht
  obtain ⟨a, b, c, d, g⟩ := t
  dsimp only at t1 t2 t4
  subst t1 t2
  exact ⟨a, H', k', d, g, by rw [nI_1]; exact e, t3, t4⟩
/-- the place of a name that has come -/
theorem plc_ins {N : Nat} {n : Nat → Nat} {P : Nat → Prop} (h : En N n P) {x : Nat} (hx : ¬ P x) : plc (N + 1) (insN n (plc N n x) x) x = plc N n x := by
  have h2 := h.ins hx
  have hp := plc_le N n x
  have e := h2.idx (i := plc N n x) (by omega)
  have e2 : insN n (plc N n x) x (plc N n x) = x := by
    unfold insN
    rw [if_neg (by omega), if_pos rfl]
  rw [e2] at e
  exact e
theorem ctake_c (hT : Tn H k C N n W) (hK : Kc ks ws H k W) {x : Nat} (hv : VN x) (h1 : 0 < lnN x) (hx : W x = -1) (hN : N < 24) {w : Int32} (hw : ¬ w = -1) (ev bu : Int32) (pa ca ra ni wi ho : Nat → Int32) :
    ∃ (H' : Nat) (k' : Nat → Nat) (ks' ws' pa' ca' ra' ni' wi' ho' : Nat → Int32),
      (C (ctN x (knl N n x (lnN x))) → mX5_takeName (nI H) ev bu ks ws pa ca ra ni wi ho (nI x) w = some (nI (plc N n x), nI H', ev, bu + nI (lnN x - knl N n x (lnN x)), ks', ws', pa', ca', ra', ni', wi', ho')) ∧
      (¬ C (ctN x (knl N n x (lnN x))) → mX5_takeName (nI H) ev bu ks ws pa ca ra ni wi ho (nI x) w = some (nI (plc N n x), nI H', ev + 1, bu + nI (lnN x - knl N n x (lnN x)), ks', ws', pa', ca', ra', ni', wi', ho')) ∧
      Tn H' k' (addC C x (knl N n x (lnN x)) (lnN x)) (N + 1) (insN n (plc N n x) x) (fun y => if y = x then w else W y) ∧
      Kc ks' ws' H' k' (fun y => if y = x then w else W y) ∧ Sv H' k' (N + 1) (insN n (plc N n x) x) (fun y => if y = x then w else W y) pa' ca' ra' ni' wi' ho' := by
  have h8 := hv.len
  have h := hT.1
  have hH := h.le
  have kle := knl_le (N := N) (n := n) x (lnN x)
  have vk := ct_VN (k := x) (l := knl N n x (lnN x)) hv.lt (by omega)
  -- from the known house on
  have rest : ∀ (H1 : Nat) (k1 : Nat → Nat) (ks1 ws1 : Nat → Int32) (ev1 : Int32), En H1 k1 (addC C x (knl N n x (lnN x)) (knl N n x (lnN x))) → Kc ks1 ws1 H1 k1 W →
      ∃ (H' : Nat) (k' : Nat → Nat) (ks' ws' pa' ca' ra' ni' wi' ho' : Nat → Int32),
        mX5_takeName_J55 (nI (lnN x)) (nI x) (nI (knl N n x (lnN x))) (nI H1) bu ks1 ws1 w pa ca ra ni wi ho ev1 = some (nI (plc N n x), nI H', ev1, bu + nI (lnN x - knl N n x (lnN x)), ks', ws', pa', ca', ra', ni', wi', ho') ∧
        Tn H' k' (addC C x (knl N n x (lnN x)) (lnN x)) (N + 1) (insN n (plc N n x) x) (fun y => if y = x then w else W y) ∧
        Kc ks' ws' H' k' (fun y => if y = x then w else W y) ∧ Sv H' k' (N + 1) (insN n (plc N n x) x) (fun y => if y = x then w else W y) pa' ca' ra' ni' wi' ho' := by
    intro H1 k1 ks1 ws1 ev1 hE hK1
    obtain ⟨y6, H', k', ks', ws', e1, e2, e3⟩ := ctl_c hT hv hx hN hE hK1 bu
    have hT' := hT.add hv h1 hx hw hN e2
    have h' := hT'.1
    have hH' := h'.le
    have cx : addC C x (knl N n x (lnN x)) (lnN x) x := Or.inr ⟨lnN x, kle, Nat.le_refl _, (ct_self hv).symm⟩
    obtain ⟨p1, p2⟩ := h'.ixe cx
    have e4 : Kc ks' (upd ws' (plc H' k' x) w) H' k' (fun y => if y = x then w else W y) := by
      intro i hi
      refine ⟨(e3 i hi).1, ?_⟩
      by_cases h3 : i = plc H' k' x
      · rw [h3, upd_at]
        show w = if k' (plc H' k' x) = x then w else _
        rw [if_pos p2]
      · rw [upd_of h3, (e3 i hi).2]
        show _ = if k' i = x then w else _
        rw [if_neg (fun e5 => h3 (h'.en.inj hi p1 (by rw [e5, p2])))]
    obtain ⟨pa', ca', ra', ni', wi', ho', e5, e6⟩ := survey_c e4 h' hT'.2.1 hT'.2.2.1 pa ca ra ni wi ho
    refine ⟨H', k', ks', upd ws' (plc H' k' x) w, pa', ca', ra', ni', wi', ho', ?_, hT', e4, e6⟩
    unfold mX5_takeName_J55
    rw [e1]
    simp only [Option.bind_some]
    rw [(index_c e3 h' hv.l31).1 cx, Option.bind_some, put_nI ws' w (by omega) (by omega), Option.bind_some, e5]
    simp only [Option.bind_some]
    rw [crank_c e4 e6 hT' hv.l31, Option.bind_some, plc_ins hT.2.1.1 (fun h3 => h3 hx)]
  by_cases hc : C (ctN x (knl N n x (lnN x)))
  · obtain ⟨H', k', ks', ws', pa', ca', ra', ni', wi', ho', e1, e2⟩ := rest H k ks ws ev (h.en.congr (fun y => by
      rw [addC_self]
      exact ⟨Or.inl, fun h3 => h3.elim id (fun e => by rw [e]; exact hc)⟩)) hK
    refine ⟨H', k', ks', ws', pa', ca', ra', ni', wi', ho', fun _ => ?_, fun h3 => absurd hc h3, e2⟩
    obtain ⟨p1, -⟩ := h.ixe hc
    unfold mX5_takeName
    rw [known_c hK hT hv, Option.bind_some, cut_c (by omega) hv.l31, (index_c hK h vk.l31).1 hc, Option.bind_some, if_neg (q_neg (by omega)), len_c, e1]
  · have eE : En (H + 1) (insN k (plc H k (ctN x (knl N n x (lnN x)))) (ctN x (knl N n x (lnN x)))) (addC C x (knl N n x (lnN x)) (knl N n x (lnN x))) := (h.en.ins hc).congr (fun y => (addC_self C x _ y).symm)
    have hHs' := addC_hs hT hv hx hN kle eE
    have wk : W (ctN x (knl N n x (lnN x))) = -1 := by
      rcases Classical.em (W (ctN x (knl N n x (lnN x))) = -1) with h3 | h3
      · exact h3
      · exact absurd (hT.2.2.1 _ h3) hc
    obtain ⟨ks1, ws1, f1, f2⟩ := cins_c hK h vk hc wk hHs'.le
    obtain ⟨H', k', ks', ws', pa', ca', ra', ni', wi', ho', e1, e2⟩ := rest _ _ ks1 ws1 (ev + 1) eE f2
    refine ⟨H', k', ks', ws', pa', ca', ra', ni', wi', ho', fun h3 => absurd h3 hc, fun _ => ?_, e2⟩
    unfold mX5_takeName
    rw [known_c hK hT hv, Option.bind_some, cut_c (by omega) hv.l31, (index_c hK h vk.l31).2 hc, Option.bind_some, if_pos rfl, f1]
    simp only [Option.bind_some]
    rw [len_c, e1]
/-- the loop of the reference -/
theorem rtl_c (hT : Tn H k C N n W) {x : Nat} (hv : VN x) (hx : W x = -1) (hN : N < 24) {H1 : Nat} {k1 : Nat → Nat} (hE : En H1 k1 (addC C x (knl N n x (lnN x)) (knl N n x (lnN x)))) (hR : Rf f H1 k1 N n W) :
    ∃ (y4 : Int32) (H' : Nat) (k' : Nat → Nat) (f' : Nat → Int32), mX8_addName_L43 (nI x) FU (nI (knl N n x (lnN x)) + 1) f = some (y4, f') ∧ En H' k' (addC C x (knl N n x (lnN x)) (lnN x)) ∧ Rf f' H' k' N n W ∧ f' 5 = f 5 + nI (lnN x - knl N n x (lnN x)) ∧ ∀ j, j < 55 → j ≠ 2 → j ≠ 5 → f' j = f j := by
  have h8 := hv.len
  have kle := knl_le (N := N) (n := n) x (lnN x)
  have hnew := fun l => addC_new hT hv (l := l)
  generalize knl N n x (lnN x) = kl at *
  obtain ⟨t, ht, e⟩ := lpI (fun m i (s : Nat → Int32) => mX8_addName_L43 (nI x) m (nI i) s) (lnN x + 1) (fun i s => kl + 1 ≤ i ∧ ∃ H' k', En H' k' (addC C x kl (i - 1)) ∧ Rf s H' k' N n W ∧ s 5 = f 5 + nI (i - (kl + 1)) ∧ ∀ j, j < 55 → j ≠ 2 → j ≠ 5 → s j = f j)
    (fun t => ∃ H' k', En H' k' (addC C x kl (lnN x)) ∧ Rf t.2 H' k' N n W ∧ t.2 5 = f 5 + nI (lnN x - kl) ∧ ∀ j, j < 55 → j ≠ 2 → j ≠ 5 → t.2 j = f j)
    (fun m i s hi hI => by
      obtain ⟨i1, H', k', e3, e4, e2, e5⟩ := hI
      have hHs := addC_hs hT hv hx hN (show i - 1 ≤ lnN x by omega) e3
      have vi := ct_VN (k := x) (l := i) hv.lt (by omega)
      obtain ⟨n1, n2⟩ := hnew (i - 1) (by omega) (by omega)
      rw [show i - 1 + 1 = i by omega] at n1 n2
      have eE : En (H' + 1) (insN k' (plc H' k' (ctN x i)) (ctN x i)) (addC C x kl i) := (e3.ins n1).congr (fun y => by
        have := addC_succ C (x := x) (kl := kl) (l := i - 1) (by omega) y
        rw [show i - 1 + 1 = i by omega] at this
        exact this.symm)
      have hHs' := addC_hs hT hv hx hN (show i ≤ lnN x by omega) eE
      obtain ⟨s', f1, f2, f3, f4⟩ := radd_c e4 hHs vi n1 hHs'.le
      have hR' := (e4.houses (f' := s') (by omega) f2 f3 f4).upd_of (i := 5) (by omega) (by omega) (s' 5 + 1)
      refine ⟨upd s' 5 (s' 5 + 1), ⟨by omega, H' + 1, _, by rw [Nat.add_sub_cancel]; exact eE, hR', ?_, fun j h1 h2 h3 => ?_⟩, ?_⟩
      · rw [upd_at, f4 5 (by omega) (by omega), e2, Int32.add_assoc, nI_1]
        congr 2
        omega
      · rw [upd_of h3, f4 j h1 h2, e5 j h1 h2 h3]
      · show mX8_addName_L43 (nI x) (m + 1) (nI i) s = mX8_addName_L43 (nI x) m (nI (i + 1)) _
        rw [mX8_addName_L43, lof_c, if_neg (nI_nlt (by omega) (by omega)), sht_c hv (by omega), f1, Option.bind_some, nI_1])
    (fun m s hI => by
      obtain ⟨i1, H', k', e3, e4, e2, e5⟩ := hI
      refine ⟨(nI (lnN x + 1), s), ⟨H', k', by rw [Nat.add_sub_cancel] at e3; exact e3, e4, ?_, e5⟩, ?_⟩
      · show s 5 = _
        rw [e2]
        congr 2
        omega
      · show mX8_addName_L43 (nI x) (m + 1) (nI (lnN x + 1)) s = _
        rw [mX8_addName_L43, lof_c, if_pos (nI_lt (by omega) (by omega))])
    (lnN x - kl) FU (kl + 1) f (by omega) (by unfold FU; omega) ⟨Nat.le_refl _, H1, k1, by rw [Nat.add_sub_cancel]; exact hE, hR, by rw [Nat.sub_self]; exact (Int32.add_zero _).symm, fun _ _ _ _ => rfl⟩
  obtain ⟨H', k', t1, t2, t3, t4⟩ := ht
  exact ⟨t.1, H', k', t.2, by rw [nI_1]; exact e, t1, t2, t3, t4⟩
/-- names are shifted for one more -/
theorem rsh_c (hN : N < 24) {p : Nat} (hp : p ≤ N) (g : Nat → Int32) : ∃ (y : Int32) (g' : Nat → Int32), mX8_addName_L93 (nI p) FU (nI N) g = some (y, g') ∧ (∀ j, j < 7 ∨ 55 ≤ j → g' j = g j) ∧ (∀ j, j < p → g' (7 + j) = g (7 + j) ∧ g' (31 + j) = g (31 + j)) ∧ ∀ j, p < j → j ≤ N → g' (7 + j) = g (7 + (j - 1)) ∧ g' (31 + j) = g (31 + (j - 1)) := by
  obtain ⟨t, ht, e⟩ := lpD (fun m i (s : Nat → Int32) => mX8_addName_L93 (nI p) m (nI i) s) p (fun i s => i ≤ N ∧ (∀ j, j < 7 ∨ 55 ≤ j → s j = g j) ∧ (∀ j, j ≤ i → (j < 24 → s (7 + j) = g (7 + j)) ∧ s (31 + j) = g (31 + j)) ∧ ∀ j, i < j → j ≤ N → s (7 + j) = g (7 + (j - 1)) ∧ s (31 + j) = g (31 + (j - 1)))
    (fun t => (∀ j, j < 7 ∨ 55 ≤ j → t.2 j = g j) ∧ (∀ j, j < p → t.2 (7 + j) = g (7 + j) ∧ t.2 (31 + j) = g (31 + j)) ∧ ∀ j, p < j → j ≤ N → t.2 (7 + j) = g (7 + (j - 1)) ∧ t.2 (31 + j) = g (31 + (j - 1)))
    (fun m i s hi hI => by
      obtain ⟨i1, i2, i3, i4⟩ := hI
      refine ⟨upd (upd s (7 + (i + 1)) (s (7 + i))) (31 + (i + 1)) (s (31 + i)), ⟨by omega, fun j hj => ?_, fun j hj => ?_, fun j h1 h2 => ?_⟩, ?_⟩
      · rw [upd_of (by omega), upd_of (by omega), i2 j hj]
      · rw [upd_of (show 31 + j ≠ 31 + (i + 1) by omega), upd_of (show 31 + j ≠ 7 + (i + 1) by omega)]
        refine ⟨fun h24 => ?_, (i3 j (by omega)).2⟩
        rw [upd_of (by omega), upd_of (by omega)]
        exact (i3 j (by omega)).1 h24
      · rcases Nat.lt_or_ge (i + 1) j with h3 | h3
        · rw [upd_of (by omega), upd_of (by omega), upd_of (by omega), upd_of (by omega)]
          exact i4 j h3 h2
        · have : j = i + 1 := by omega
          subst this
          rw [upd_of (show 7 + (i + 1) ≠ 31 + (i + 1) by omega), upd_at, upd_at]
          exact ⟨(i3 i (by omega)).1 (by omega), (i3 i (by omega)).2⟩
      · show mX8_addName_L93 (nI p) (m + 1) (nI (i + 1)) s = mX8_addName_L93 (nI p) m (nI i) _
        rw [mX8_addName_L93]
        unfold mX8_name
        rw [if_neg (nI_ge (by omega) (by omega)), nI_pred, show (7 : Int32) + nI i = nI (7 + i) from nI_add 7 i, rd_nI s (by omega) (by omega), Option.bind_some, Option.bind_some, show (7 : Int32) + nI (i + 1) = nI (7 + (i + 1)) from nI_add 7 _, wr_nI s _ (by omega) (by omega), Option.bind_some, show (31 : Int32) + nI (i + 1) = nI (31 + i + 1) from nI_add 31 _, nI_pred, rd_nI _ (by omega) (by omega), Option.bind_some, wr_nI _ _ (by omega) (by omega), Option.bind_some, q_m1, upd_of (show 31 + i ≠ 7 + (i + 1) by omega)]
        rfl)
    (fun m s hI => by
      obtain ⟨i1, i2, i3, i4⟩ := hI
      refine ⟨(nI p, s), ⟨i2, fun j hj => ⟨(i3 j (by omega)).1 (by omega), (i3 j (by omega)).2⟩, i4⟩, ?_⟩
      show mX8_addName_L93 (nI p) (m + 1) (nI p) s = _
      rw [mX8_addName_L93, if_pos (nI_le (Nat.le_refl _) (by omega))])
    (N - p) FU N g (by omega) (by unfold FU; omega) ⟨Nat.le_refl _, fun _ _ => rfl, fun j hj => ⟨fun _ => rfl, rfl⟩, fun j h1 h2 => by omega⟩
  exact ⟨t.1, t.2, e, ht⟩
theorem rtake_c (hT : Tn H k C N n W) (hR : Rf f H k N n W) {x : Nat} (hv : VN x) (h1 : 0 < lnN x) (hx : W x = -1) (hN : N < 24) {w : Int32} (hw : ¬ w = -1) :
    ∃ (H' : Nat) (k' : Nat → Nat) (f' : Nat → Int32), mX8_addName f (nI x) w = some (nI (plc N n x), f') ∧ En H' k' (addC C x (knl N n x (lnN x)) (lnN x)) ∧ Rf f' H' k' (N + 1) (insN n (plc N n x) x) (fun y => if y = x then w else W y) ∧
      f' 0 = f 0 ∧ f' 3 = f 3 ∧ f' 5 = f 5 + nI (lnN x - knl N n x (lnN x)) ∧ f' 6 = f 6 ∧ (C (ctN x (knl N n x (lnN x))) → f' 4 = f 4) ∧ (¬ C (ctN x (knl N n x (lnN x))) → f' 4 = f 4 + 1) := by
  have h8 := hv.len
  have h := hT.1
  have hH := h.le
  have hn := hT.2.1
  have kle := knl_le (N := N) (n := n) x (lnN x)
  have vk := ct_VN (k := x) (l := knl N n x (lnN x)) hv.lt (by omega)
  have hp := plc_le N n x
  have rest : ∀ (H1 : Nat) (k1 : Nat → Nat) (f1 : Nat → Int32), En H1 k1 (addC C x (knl N n x (lnN x)) (knl N n x (lnN x))) → Rf f1 H1 k1 N n W →
      ∃ (H' : Nat) (k' : Nat → Nat) (f' : Nat → Int32), mX8_addName_J38 (nI x) (nI (knl N n x (lnN x))) f1 w = some (nI (plc N n x), f') ∧ En H' k' (addC C x (knl N n x (lnN x)) (lnN x)) ∧ Rf f' H' k' (N + 1) (insN n (plc N n x) x) (fun y => if y = x then w else W y) ∧
      f' 0 = f1 0 ∧ f' 3 = f1 3 ∧ f' 5 = f1 5 + nI (lnN x - knl N n x (lnN x)) ∧ f' 6 = f1 6 ∧ f' 4 = f1 4 := by
    intro H1 k1 f1 hE hR1
    obtain ⟨y4, H', k', g, e1, e2, e3, e4, e5⟩ := rtl_c hT hv hx hN hE hR1
    obtain ⟨y5, g', d1, d2, d3, d4⟩ := rsh_c hN hp g
    have hlen : 7 + plc N n x < 55 := by omega
    refine ⟨H', k', upd (upd (upd g' (7 + plc N n x) (nI x)) (31 + plc N n x) w) 1 (nI (N + 1)), ?_, e2, ⟨?_, fun i hi => ?_, upd_at _ _ _, fun r hr => ?_, fun r hr => ?_⟩, ?_, ?_, ?_, ?_, ?_⟩
    · unfold mX8_addName_J38
      rw [e1]
      simp only [Option.bind_some]
      rw [rank_c e3 hn hv.l31, Option.bind_some, e3.2.2.1, d1]
      simp only [Option.bind_some]
      rw [show (7 : Int32) + nI (plc N n x) = nI (7 + plc N n x) from nI_add 7 _, wr_nI g' _ (by omega) (by omega), Option.bind_some, show (31 : Int32) + nI (plc N n x) = nI (31 + plc N n x) from nI_add 31 _, wr_nI _ _ (by omega) (by omega), Option.bind_some, upd_of (show 1 ≠ 31 + plc N n x by omega), upd_of (show 1 ≠ 7 + plc N n x by omega), d2 1 (by omega), e3.2.2.1, nI_1]
    · rw [upd_of (by omega), upd_of (by omega), upd_of (by omega), d2 2 (by omega)]
      exact e3.1
    · rw [upd_of (by omega), upd_of (by omega), upd_of (by omega), d2 _ (by omega)]
      exact e3.2.1 i hi
    · rw [upd_of (by omega), upd_of (by omega)]
      unfold insN
      by_cases h3 : r < plc N n x
      · rw [upd_of (by omega), if_pos h3, (d3 r h3).1]
        exact e3.2.2.2.1 r (by omega)
      · rw [if_neg h3]
        by_cases h4 : r = plc N n x
        · rw [if_pos h4, h4, upd_at]
        · rw [if_neg h4, upd_of (by omega), (d4 r (by omega) (by omega)).1]
          exact e3.2.2.2.1 (r - 1) (by omega)
    · rw [upd_of (by omega)]
      have hnx : ∀ q, q < N → n q ≠ x := fun q hq e6 => hn.1.2.1 q hq (by rw [e6]; exact hx)
      show _ = if insN n (plc N n x) x r = x then w else W (insN n (plc N n x) x r)
      unfold insN
      by_cases h3 : r < plc N n x
      · rw [upd_of (by omega), upd_of (by omega), if_pos h3, (d3 r h3).2, if_neg (hnx r (by omega))]
        exact e3.2.2.2.2 r (by omega)
      · rw [if_neg h3]
        by_cases h4 : r = plc N n x
        · rw [if_pos h4, h4, upd_at, if_pos rfl]
        · rw [if_neg h4, upd_of (by omega), upd_of (by omega), (d4 r (by omega) (by omega)).2, if_neg (hnx (r - 1) (by omega))]
          exact e3.2.2.2.2 (r - 1) (by omega)
    · rw [upd_of (by omega), upd_of (by omega), upd_of (by omega), d2 _ (by omega), e5 _ (by omega) (by omega) (by omega)]
    · rw [upd_of (by omega), upd_of (by omega), upd_of (by omega), d2 _ (by omega), e5 _ (by omega) (by omega) (by omega)]
    · rw [upd_of (by omega), upd_of (by omega), upd_of (by omega), d2 _ (by omega), e4]
    · rw [upd_of (by omega), upd_of (by omega), upd_of (by omega), d2 _ (by omega), e5 _ (by omega) (by omega) (by omega)]
    · rw [upd_of (by omega), upd_of (by omega), upd_of (by omega), d2 _ (by omega), e5 _ (by omega) (by omega) (by omega)]
  by_cases hc : C (ctN x (knl N n x (lnN x)))
  · obtain ⟨H', k', f', e1, e2, e3, e4, e5, e6, e7, e8⟩ := rest H k f (h.en.congr (fun y => by
      rw [addC_self]
      exact ⟨Or.inl, fun h3 => h3.elim id (fun e => by rw [e]; exact hc)⟩)) hR
    refine ⟨H', k', f', ?_, e2, e3, e4, e5, e6, e7, fun _ => e8, fun h3 => absurd hc h3⟩
    obtain ⟨p1, -⟩ := h.ixe hc
    unfold mX8_addName
    rw [long_c hR hn hv, Option.bind_some, sht_c hv kle, (findh_c hR h vk.l31).1 hc, Option.bind_some, if_neg (q_neg (by omega)), e1]
  · have eE : En (H + 1) (insN k (plc H k (ctN x (knl N n x (lnN x)))) (ctN x (knl N n x (lnN x)))) (addC C x (knl N n x (lnN x)) (knl N n x (lnN x))) := (h.en.ins hc).congr (fun y => (addC_self C x _ y).symm)
    have hHs' := addC_hs hT hv hx hN kle eE
    obtain ⟨s', f1, f2, f3, f4⟩ := radd_c hR h vk hc hHs'.le
    have hR' := (hR.houses (f' := s') (by omega) f2 f3 f4).upd_of (i := 4) (by omega) (by omega) (s' 4 + 1)
    obtain ⟨H', k', f', e1, e2, e3, e4, e5, e6, e7, e8⟩ := rest _ _ _ eE hR'
    refine ⟨H', k', f', ?_, e2, e3, ?_, ?_, ?_, ?_, fun h3 => absurd h3 hc, fun _ => ?_⟩
    · unfold mX8_addName
      rw [long_c hR hn hv, Option.bind_some, sht_c hv kle, (findh_c hR h vk.l31).2 hc, Option.bind_some, if_pos rfl, f1, Option.bind_some, e1]
    · rw [e4, upd_of (by omega), f4 _ (by omega) (by omega)]
    · rw [e5, upd_of (by omega), f4 _ (by omega) (by omega)]
    · rw [e6, upd_of (by omega), f4 _ (by omega) (by omega)]
    · rw [e7, upd_of (by omega), f4 _ (by omega) (by omega)]
    · rw [e8, upd_at, f4 _ (by omega) (by omega)]
end Add
