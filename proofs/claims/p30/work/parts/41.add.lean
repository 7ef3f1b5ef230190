/-! A name that comes. -/
section Add
variable {ks ws : Nat → Int32} {H : Nat} {k : Nat → Nat} {W : Nat → Int32} {C : Nat → Prop} {N : Nat} {n : Nat → Nat}
theorem Kc.congr {k' : Nat → Nat} {W' : Nat → Int32} (hK : Kc ks ws H k W) (h : ∀ i, i < H → k i = k' i) (hW : ∀ i, i < H → W (k i) = W' (k i)) : Kc ks ws H k' W' := fun i hi => by
  rw [← h i hi, ← hW i hi]
  exact hK i hi
theorem addC_succ (C : Nat → Prop) {x kl l : Nat} (hl : kl ≤ l + 1) (y : Nat) : addC C x kl (l + 1) y ↔ (addC C x kl l y ∨ y = ctN x (l + 1)) := by
  unfold addC
  constructor
  · intro h
    rcases h with h | ⟨j, h1, h2, e⟩
    · exact Or.inl (Or.inl h)
    · rcases Nat.lt_or_ge l j with h3 | h3
      · have : j = l + 1 := by omega
        subst this
        exact Or.inr e
      · exact Or.inl (Or.inr ⟨j, h1, h3, e⟩)
  · intro h
    rcases h with h | h
    · rcases h with h | ⟨j, h1, h2, e⟩
      · exact Or.inl h
      · exact Or.inr ⟨j, h1, by omega, e⟩
    · exact Or.inr ⟨l + 1, hl, Nat.le_refl _, h⟩
theorem addC_self (C : Nat → Prop) (x kl : Nat) (y : Nat) : addC C x kl kl y ↔ (C y ∨ y = ctN x kl) := by
  unfold addC
  constructor
  · intro h
    rcases h with h | ⟨j, h1, h2, e⟩
    · exact Or.inl h
    · have : j = kl := by omega
      subst this
      exact Or.inr e
  · intro h
    rcases h with h | h
    · exact Or.inl h
    · exact Or.inr ⟨kl, Nat.le_refl _, Nat.le_refl _, h⟩
theorem addC_hs (hT : Tn H k C N n W) {x : Nat} (hv : VN x) (hx : W x = -1) (hN : N < 24) {l : Nat} (hl : l ≤ lnN x) {kl H' : Nat} {k' : Nat → Nat} (hE : En H' k' (addC C x kl l)) : Hs H' k' (addC C x kl l) := by
  obtain ⟨h, hn, hC, hW0, hD, hM⟩ := hT
  have h8 := hv.len
  have eW : ∀ y, (¬ (if y = x then 0 else W y) = -1) ↔ (¬ W y = -1 ∨ y = x) := by
    intro y
    by_cases h2 : y = x
    · rw [if_pos h2]
      exact ⟨fun _ => Or.inr h2, fun _ => by decide⟩
    · rw [if_neg h2]
      exact ⟨Or.inl, fun h3 => h3.elim id (fun h4 => absurd h4 h2)⟩
  have hV : ∀ y, addC C x kl l y → VN y := by
    intro y hy
    rcases hy with hy | ⟨j, hj1, hj2, e⟩
    · exact h.2.2.1 y hy
    · rw [e]
      exact ct_VN hv.lt (by omega)
  have hn' : Ns (N + 1) (insN n (plc N n x) x) (fun y => if y = x then 0 else W y) := by
    refine ⟨(hn.1.ins (fun h2 => h2 hx)).congr (fun y => (eW y).symm), fun y hy => ?_, by omega⟩
    rcases (eW y).mp hy with h2 | h2
    · exact hn.2.1 y h2
    · rw [h2]; exact hv
  refine ⟨hE, Or.inl h.2.1, hV, Tn.le193 hE hV hn' (fun y hy h0 => ?_)⟩
  rcases hy with hy | ⟨j, hj1, hj2, e⟩
  · obtain ⟨z, hz, hb⟩ := hD y hy h0
    exact ⟨z, (eW z).mpr (Or.inl hz), hb⟩
  · refine ⟨x, (eW x).mpr (Or.inr rfl), ?_⟩
    rw [e]
    exact ct_bg hv (by omega)
theorem addC_new (hT : Tn H k C N n W) {x : Nat} (hv : VN x) {l : Nat} (h1 : knl N n x (lnN x) ≤ l) (h2 : l + 1 ≤ lnN x) : ¬ addC C x (knl N n x (lnN x)) l (ctN x (l + 1)) ∧ W (ctN x (l + 1)) = -1 := by
  have h8 := hv.len
  have hnC : ¬ C (ctN x (l + 1)) := by
    intro h3
    apply knl_max (N := N) (n := n) (x := x) (lnN x) (l + 1) (by omega) h2
    rw [hT.tb (ct_VN hv.lt (by omega))]
    obtain ⟨j, hj, e⟩ := hT.1.en.2.2 _ h3
    exact ⟨j, hj, by rw [e]; exact bg_rfl _⟩
  refine ⟨fun h3 => ?_, ?_⟩
  · rcases h3 with h3 | ⟨j, h4, h5, e⟩
    · exact hnC h3
    · have e1 := ct_len (k := x) (l := j) (by omega)
      have e2 := ct_len (k := x) (l := l + 1) (by omega)
      rw [e, e1] at e2
      omega
  · rcases Classical.em (W (ctN x (l + 1)) = -1) with h3 | h3
    · exact h3
    · exact absurd (hT.2.2.1 _ h3) hnC
/-- the loop of the class -/
theorem ctl_c (hT : Tn H k C N n W) {x : Nat} (hv : VN x) (hx : W x = -1) (hN : N < 24) {H1 : Nat} {k1 : Nat → Nat} (hE : En H1 k1 (addC C x (knl N n x (lnN x)) (knl N n x (lnN x)))) (hK : Kc ks ws H1 k1 W) (b0 : Int32) :
    ∃ (y6 : Int32) (H' : Nat) (k' : Nat → Nat) (ks' ws' : Nat → Int32), mX5_takeName_L61 (nI (lnN x)) (nI x) FU (nI (knl N n x (lnN x)) + 1) (nI H1) b0 ks ws = some (y6, nI H', b0 + nI (lnN x - knl N n x (lnN x)), ks', ws') ∧ En H' k' (addC C x (knl N n x (lnN x)) (lnN x)) ∧ Kc ks' ws' H' k' W := by
  have h8 := hv.len
  have kle := knl_le (N := N) (n := n) x (lnN x)
  have hnew := fun l => addC_new hT hv (l := l)
  generalize knl N n x (lnN x) = kl at *
  obtain ⟨t, ht, e⟩ := lpI (fun m i (s : Int32 × Int32 × (Nat → Int32) × (Nat → Int32)) => mX5_takeName_L61 (nI (lnN x)) (nI x) m (nI i) s.1 s.2.1 s.2.2.1 s.2.2.2) (lnN x + 1) (fun i s => kl + 1 ≤ i ∧ ∃ H' k', s.1 = nI H' ∧ s.2.1 = b0 + nI (i - (kl + 1)) ∧ En H' k' (addC C x kl (i - 1)) ∧ Kc s.2.2.1 s.2.2.2 H' k' W)
    (fun t => ∃ H' k', t.2.1 = nI H' ∧ t.2.2.1 = b0 + nI (lnN x - kl) ∧ En H' k' (addC C x kl (lnN x)) ∧ Kc t.2.2.2.1 t.2.2.2.2 H' k' W)
    (fun m i s hi hI => by
      obtain ⟨i1, H', k', e1, e2, e3, e4⟩ := hI
      have hHs := addC_hs hT hv hx hN (show i - 1 ≤ lnN x by omega) e3
      have vi := ct_VN (k := x) (l := i) hv.lt (by omega)
      obtain ⟨n1, n2⟩ := hnew (i - 1) (by omega) (by omega)
      rw [show i - 1 + 1 = i by omega] at n1 n2
      have eE : En (H' + 1) (insN k' (plc H' k' (ctN x i)) (ctN x i)) (addC C x kl i) := (e3.ins n1).congr (fun y => by
        have := addC_succ C (x := x) (kl := kl) (l := i - 1) (by omega) y
        rw [show i - 1 + 1 = i by omega] at this
        exact this.symm)
      have hHs' := addC_hs hT hv hx hN (show i ≤ lnN x by omega) eE
      obtain ⟨ks', ws', f1, f2⟩ := cins_c e4 hHs vi n1 n2 hHs'.le
      refine ⟨(nI (H' + 1), s.2.1 + 1, ks', ws'), ⟨by omega, H' + 1, _, rfl, ?_, by rw [Nat.add_sub_cancel]; exact eE, f2⟩, ?_⟩
      · show s.2.1 + 1 = _
        rw [e2, Int32.add_assoc, nI_1]
        congr 2
        omega
      · show mX5_takeName_L61 (nI (lnN x)) (nI x) (m + 1) (nI i) s.1 s.2.1 s.2.2.1 s.2.2.2 = mX5_takeName_L61 (nI (lnN x)) (nI x) m (nI (i + 1)) (nI (H' + 1)) (s.2.1 + 1) ks' ws'
        rw [mX5_takeName_L61, if_neg (nI_nlt (by omega) (by omega)), cut_c (by omega) hv.l31, e1, f1]
        simp only [Option.bind_some]
        rw [nI_1])
    (fun m s hI => by
      obtain ⟨i1, H', k', e1, e2, e3, e4⟩ := hI
      refine ⟨(nI (lnN x + 1), s), ⟨H', k', e1, ?_, by rw [Nat.add_sub_cancel] at e3; exact e3, e4⟩, ?_⟩
      · show s.2.1 = _
        rw [e2]
        congr 2
        omega
      · show mX5_takeName_L61 (nI (lnN x)) (nI x) (m + 1) (nI (lnN x + 1)) s.1 s.2.1 s.2.2.1 s.2.2.2 = _
        rw [mX5_takeName_L61, if_pos (nI_lt (by omega) (by omega))])
    (lnN x - kl) FU (kl + 1) (nI H1, b0, ks, ws) (by omega) (by unfold FU; omega) ⟨Nat.le_refl _, H1, k1, rfl, by rw [Nat.sub_self]; exact (Int32.add_zero b0).symm, by rw [Nat.add_sub_cancel]; exact hE, hK⟩
  obtain ⟨H', k', t1, t2, t3, t4⟩ := ht
  obtain ⟨a, b, c, d, g⟩ := t
  dsimp only at t1 t2 t4
  subst t1 t2
  exact ⟨a, H', k', d, g, by rw [nI_1]; exact e, t3, t4⟩
/-- the place of a name that has come -/
theorem plc_ins {N : Nat} {n : Nat → Nat} {P : Nat → Prop} (h : En N n P) {x : Nat} (hx : ¬ P x) : plc (N + 1) (insN n (plc N n x) x) x = plc N n x := by
  have h2 := h.ins hx
  have hp := plc_le N n x
  have e := h2.idx (i := plc N n x) (by omega)
  have e2 : insN n (plc N n x) x (plc N n x) = x := by
    unfold insN
    rw [if_neg (by omega), if_pos rfl]
  rw [e2] at e
  exact e
theorem ctake_c (hT : Tn H k C N n W) (hK : Kc ks ws H k W) {x : Nat} (hv : VN x) (h1 : 0 < lnN x) (hx : W x = -1) (hN : N < 24) {w : Int32} (hw : ¬ w = -1) (ev bu : Int32) (pa ca ra ni wi ho : Nat → Int32) :
    ∃ (H' : Nat) (k' : Nat → Nat) (ks' ws' pa' ca' ra' ni' wi' ho' : Nat → Int32),
      (C (ctN x (knl N n x (lnN x))) → mX5_takeName (nI H) ev bu ks ws pa ca ra ni wi ho (nI x) w = some (nI (plc N n x), nI H', ev, bu + nI (lnN x - knl N n x (lnN x)), ks', ws', pa', ca', ra', ni', wi', ho')) ∧
      (¬ C (ctN x (knl N n x (lnN x))) → mX5_takeName (nI H) ev bu ks ws pa ca ra ni wi ho (nI x) w = some (nI (plc N n x), nI H', ev + 1, bu + nI (lnN x - knl N n x (lnN x)), ks', ws', pa', ca', ra', ni', wi', ho')) ∧
      Tn H' k' (addC C x (knl N n x (lnN x)) (lnN x)) (N + 1) (insN n (plc N n x) x) (fun y => if y = x then w else W y) ∧
      Kc ks' ws' H' k' (fun y => if y = x then w else W y) ∧ Sv H' k' (N + 1) (insN n (plc N n x) x) (fun y => if y = x then w else W y) pa' ca' ra' ni' wi' ho' := by
  have h8 := hv.len
  have h := hT.1
  have hH := h.le
  have kle := knl_le (N := N) (n := n) x (lnN x)
  have vk := ct_VN (k := x) (l := knl N n x (lnN x)) hv.lt (by omega)
  -- from the known house on
  have rest : ∀ (H1 : Nat) (k1 : Nat → Nat) (ks1 ws1 : Nat → Int32) (ev1 : Int32), En H1 k1 (addC C x (knl N n x (lnN x)) (knl N n x (lnN x))) → Kc ks1 ws1 H1 k1 W →
      ∃ (H' : Nat) (k' : Nat → Nat) (ks' ws' pa' ca' ra' ni' wi' ho' : Nat → Int32),
        mX5_takeName_J55 (nI (lnN x)) (nI x) (nI (knl N n x (lnN x))) (nI H1) bu ks1 ws1 w pa ca ra ni wi ho ev1 = some (nI (plc N n x), nI H', ev1, bu + nI (lnN x - knl N n x (lnN x)), ks', ws', pa', ca', ra', ni', wi', ho') ∧
        Tn H' k' (addC C x (knl N n x (lnN x)) (lnN x)) (N + 1) (insN n (plc N n x) x) (fun y => if y = x then w else W y) ∧
        Kc ks' ws' H' k' (fun y => if y = x then w else W y) ∧ Sv H' k' (N + 1) (insN n (plc N n x) x) (fun y => if y = x then w else W y) pa' ca' ra' ni' wi' ho' := by
    intro H1 k1 ks1 ws1 ev1 hE hK1
    obtain ⟨y6, H', k', ks', ws', e1, e2, e3⟩ := ctl_c hT hv hx hN hE hK1 bu
    have hT' := hT.add hv h1 hx hw hN e2
    have h' := hT'.1
    have hH' := h'.le
    have cx : addC C x (knl N n x (lnN x)) (lnN x) x := Or.inr ⟨lnN x, kle, Nat.le_refl _, (ct_self hv).symm⟩
    obtain ⟨p1, p2⟩ := h'.ixe cx
    have e4 : Kc ks' (upd ws' (plc H' k' x) w) H' k' (fun y => if y = x then w else W y) := by
      intro i hi
      refine ⟨(e3 i hi).1, ?_⟩
      by_cases h3 : i = plc H' k' x
      · rw [h3, upd_at]
        show w = if k' (plc H' k' x) = x then w else _
        rw [if_pos p2]
      · rw [upd_of h3, (e3 i hi).2]
        show _ = if k' i = x then w else _
        rw [if_neg (fun e5 => h3 (h'.en.inj hi p1 (by rw [e5, p2])))]
    obtain ⟨pa', ca', ra', ni', wi', ho', e5, e6⟩ := survey_c e4 h' hT'.2.1 hT'.2.2.1 pa ca ra ni wi ho
    refine ⟨H', k', ks', upd ws' (plc H' k' x) w, pa', ca', ra', ni', wi', ho', ?_, hT', e4, e6⟩
    unfold mX5_takeName_J55
    rw [e1]
    simp only [Option.bind_some]
    rw [(index_c e3 h' hv.l31).1 cx, Option.bind_some, put_nI ws' w (by omega) (by omega), Option.bind_some, e5]
    simp only [Option.bind_some]
    rw [crank_c e4 e6 hT' hv.l31, Option.bind_some, plc_ins hT.2.1.1 (fun h3 => h3 hx)]
  by_cases hc : C (ctN x (knl N n x (lnN x)))
  · obtain ⟨H', k', ks', ws', pa', ca', ra', ni', wi', ho', e1, e2⟩ := rest H k ks ws ev (h.en.congr (fun y => by
      rw [addC_self]
      exact ⟨Or.inl, fun h3 => h3.elim id (fun e => by rw [e]; exact hc)⟩)) hK
    refine ⟨H', k', ks', ws', pa', ca', ra', ni', wi', ho', fun _ => ?_, fun h3 => absurd hc h3, e2⟩
    obtain ⟨p1, -⟩ := h.ixe hc
    unfold mX5_takeName
    rw [known_c hK hT hv, Option.bind_some, cut_c (by omega) hv.l31, (index_c hK h vk.l31).1 hc, Option.bind_some, if_neg (q_neg (by omega)), len_c, e1]
  · have eE : En (H + 1) (insN k (plc H k (ctN x (knl N n x (lnN x)))) (ctN x (knl N n x (lnN x)))) (addC C x (knl N n x (lnN x)) (knl N n x (lnN x))) := (h.en.ins hc).congr (fun y => (addC_self C x _ y).symm)
    have hHs' := addC_hs hT hv hx hN kle eE
    have wk : W (ctN x (knl N n x (lnN x))) = -1 := by
      rcases Classical.em (W (ctN x (knl N n x (lnN x))) = -1) with h3 | h3
      · exact h3
      · exact absurd (hT.2.2.1 _ h3) hc
    obtain ⟨ks1, ws1, f1, f2⟩ := cins_c hK h vk hc wk hHs'.le
    obtain ⟨H', k', ks', ws', pa', ca', ra', ni', wi', ho', e1, e2⟩ := rest _ _ ks1 ws1 (ev + 1) eE f2
    refine ⟨H', k', ks', ws', pa', ca', ra', ni', wi', ho', fun h3 => absurd h3 hc, fun _ => ?_, e2⟩
    unfold mX5_takeName
    rw [known_c hK hT hv, Option.bind_some, cut_c (by omega) hv.l31, (index_c hK h vk.l31).2 hc, Option.bind_some, if_pos rfl, f1]
    simp only [Option.bind_some]
    rw [len_c, e1]
end Add
