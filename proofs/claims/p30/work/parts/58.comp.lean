/-! All houses move in that can, on both sides. -/
/-- so many moves, always of the first house that can, from houses to houses; then none can -/
def mvs (L : Int32) (W : Nat → Int32) : Nat → Nat → (Nat → Nat) → Nat → (Nat → Nat) → Prop
  | 0, H, k, H', k' => H = H' ∧ (∀ j, j < H → k j = k' j) ∧ ∀ j, j < H → ¬ why L H k W j = 0
  | c + 1, H, k, H', k' => ∃ p, p < H ∧ why L H k W p = 0 ∧ (∀ j, j < p → ¬ why L H k W j = 0) ∧ mvs L W c (H - 1) (delN k p) H' k'
section Cmp
variable {na we hq : Nat → Int32} {H : Nat} {k : Nat → Nat} {W : Nat → Int32} {C : Nat → Prop} {N : Nat} {n : Nat → Nat}
variable {ks ws : Nat → Int32}
theorem comp30a {L : Int32} {ca : Nat → Int32} {H0 : Nat} {k0 : Nat → Nat} (hK : Kc ks ws H0 k0 W) (h0H : H0 ≤ 193) : ∀ (d : Nat) (H : Nat) (k : Nat → Nat) (C : Nat → Prop) (p mny : Nat) (pa lv : Nat → Int32) (m0 : Nat), H = p + d → Tn H k C N n W →
    Cp L ca H0 k0 W H k p mny pa lv → d < m0 →
    ∃ (H' : Nat) (k' : Nat → Nat) (C' : Nat → Prop) (pa' lv' : Nat → Int32) (c : Nat), Tn H' k' C' N n W ∧ mvs L W c H k H' k' ∧
      mX5_moveAll_L2 (nI H0) L ks ws ca m0 (nI (p + mny)) pa lv = some (nI H0, pa', lv') ∧
      H' + (mny + c) = H0 ∧ cn (unm lv') H0 = H' ∧ (∀ j, j < H0 → lv' j = 0 → k' (cn (unm lv') j) = k0 j) := by
  intro d
  induction d with
  | zero =>
    intro H k C p mny pa lv m0 hd hT hP hm0
    obtain ⟨m0, rfl⟩ : ∃ z, m0 = z + 1 := ⟨m0 - 1, by omega⟩
    obtain ⟨a1, a2, a3, a4, a5, a6⟩ := hP
    have e : p + mny = H0 := by omega
    rw [e] at a5 a6
    refine ⟨H, k, C, pa, lv, 0, hT, ⟨rfl, fun _ _ => rfl, fun j hj => a4 j (by omega)⟩, ?_, a1, by omega, a6⟩
    rw [e, mX5_moveAll_L2, if_pos (nI_le (Nat.le_refl _) (by omega))]
  | succ d ih =>
    intro H k C p mny pa lv m0 hd hT hP hm0
    obtain ⟨m0, rfl⟩ : ∃ z, m0 = z + 1 := ⟨m0 - 1, by omega⟩
    have hp : p < H := by omega
    have hH := hT.1.le
    have hlt : p + mny < H0 := by have := hP.1; omega
    rw [mX5_moveAll_L2, if_neg (nI_ge hlt (by omega)), hP.reason hT hK h0H hp, put_nI lv _ (by omega) (by omega), Option.bind_some]
    by_cases hw : why L H k W p = 0
    · obtain ⟨w0, w1, w2, w3⟩ := why_0 hw
      obtain ⟨x1, x2⟩ := hT.nx hp w0 w1
      have hP' := Cp.go hT hP hp hw
      have e2 := hT.drop hp w0 w1 w2
      have hlt2 : p + mny + 1 < H0 := by have := hP.1; omega
      simp only [if_pos hw, if_neg (show ¬ (1 : Int32) = 0 by decide)]
      rw [nI_1, at_nI pa (by omega) (by omega), put_nI pa _ (by omega) (by omega), Option.bind_some]
      obtain ⟨H', k', C', pa', lv', c, r1, r2, r3, r5, r6, r7⟩ := ih (H - 1) (delN k p) (fun y => C y ∧ y ≠ k p) p (mny + 1) (upd pa (p + mny + 1) (pa (p + mny))) (upd lv (p + mny) 1) m0 (by omega) e2 hP' (by omega)
      refine ⟨H', k', C', pa', lv', c + 1, r1, ⟨p, hp, hw, hP.2.2.2.1, r2⟩, ?_, by omega, r6, r7⟩
      rw [show p + mny + 1 = p + (mny + 1) by omega]
      exact r3
    · have hP' := Cp.stay hP hp hw
      simp only [if_neg hw, if_pos (show (0 : Int32) = 0 from rfl)]
      rw [nI_1]
      obtain ⟨H', k', C', pa', lv', c, r1, r2, r3, r5, r6, r7⟩ := ih H k C (p + 1) mny pa _ m0 (by omega) hT hP' (by omega)
      refine ⟨H', k', C', pa', lv', c, r1, r2, ?_, r5, r6, r7⟩
      rw [show p + mny + 1 = p + 1 + mny by omega]
      exact r3
theorem comp30 {pa ca ra ni wi ho : Nat → Int32} (hT : Tn H k C N n W) (hK : Kc ks ws H k W) (hS : Sv H k N n W pa ca ra ni wi ho) (L mv : Int32) (lv : Nat → Int32) :
    ∃ (H' : Nat) (k' : Nat → Nat) (C' : Nat → Prop) (ks' ws' pa' ca' ra' ni' wi' ho' lv' : Nat → Int32) (c : Nat),
      mX5_moveAll (nI H) L mv ks ws pa ca ra ni wi ho lv = some (nI c, nI H', mv + nI c, ks', ws', pa', ca', ra', ni', wi', ho', lv') ∧
      Tn H' k' C' N n W ∧ Kc ks' ws' H' k' W ∧ Sv H' k' N n W pa' ca' ra' ni' wi' ho' ∧ mvs L W c H k H' k' ∧ H' + c = H := by
  have h := hT.1
  have hH := h.le
  have hP : Cp L ca H k W H k 0 0 pa lv := by
    refine ⟨rfl, fun h1 => absurd h1 (Nat.lt_irrefl 0), fun d hd => ?_, fun j hj => absurd hj (Nat.not_lt_zero _), rfl, fun j hj => absurd hj (Nat.not_lt_zero _)⟩
    obtain ⟨s1, s2, s3⟩ := hS.1 (0 + d) hd
    exact ⟨rfl, s2, pr k (0 + d), by have := pr_le k (0 + d); omega, s1, rfl⟩
  obtain ⟨H', k', C', pa', lv', c, r1, r2, r3, r5, r6, r7⟩ := comp30a (N := N) (n := n) hK hH H H k C 0 0 pa lv FU (by omega) hT hP (by unfold FU; omega)
  obtain ⟨ks', ws', m1, m2⟩ := cmark_c hH hK r6 r7
  obtain ⟨pa2, ca', ra', ni', wi', ho', e5, e6⟩ := survey_c m2 r1.1 r1.2.1 r1.2.2.1 pa' ca ra ni wi ho
  refine ⟨H', k', C', ks', ws', pa2, ca', ra', ni', wi', ho', lv', c, ?_, r1, m2, e6, r2, by omega⟩
  unfold mX5_moveAll
  rw [show mX5_moveAll_L2 (nI H) L ks ws ca FU 0 pa lv = _ from r3]
  simp only [Option.bind_some]
  rw [m1]
  simp only [Option.bind_some]
  rw [e5, show H - H' = c by omega]
  rfl
theorem why_root (L : Int32) (H : Nat) (k : Nat → Nat) (W : Nat → Int32) : ¬ why L H k W 0 = 0 := by
  unfold why
  rw [if_pos rfl]
  decide
/-- the law finds the first house that can move in -/
theorem first30 (hL : LI na we hq C W) (hT : Tn H k C N n W) (q : Nat → Int32) :
    ((∀ j, j < H → ¬ why (q 0) H k W j = 0) ∧ mL_law_L512 hq q na FU (-1) 1 = some (-1, nI 15)) ∨
    ∃ p, p < 15 ∧ hq p = 1 ∧ why (q 0) H k W (plc H k (pcd p)) = 0 ∧ (∀ j, j < plc H k (pcd p) → ¬ why (q 0) H k W j = 0) ∧ mL_law_L512 hq q na FU (-1) 1 = some (nI p, nI 15) := by
  have h := hT.1
  let J : Nat → Int32 → Prop := fun i s => (s = -1 ∧ ∀ r, r < i → hq r = 1 → ¬ why (q 0) H k W (plc H k (pcd r)) = 0) ∨
    ∃ p, p < i ∧ p < 15 ∧ hq p = 1 ∧ why (q 0) H k W (plc H k (pcd p)) = 0 ∧ s = nI p ∧ ∀ r, r < i → hq r = 1 → why (q 0) H k W (plc H k (pcd r)) = 0 → pcd p ≤ pcd r
  obtain ⟨t, ht, e⟩ := lpI (fun m i (s : Int32) => mL_law_L512 hq q na m s (nI i)) 15 J (fun t => J 15 t.1 ∧ t.2 = nI 15)
    (fun m i s hi hI => by
      have stay : (hq i = 1 → ¬ why (q 0) H k W (plc H k (pcd i)) = 0) → J (i + 1) s := by
        intro hno
        rcases hI with ⟨a1, a2⟩ | ⟨p, a1, a2, a3, a4, a5, a6⟩
        · refine Or.inl ⟨a1, fun r hr h1 => ?_⟩
          rcases Nat.lt_or_ge r i with h2 | h2
          · exact a2 r h2 h1
          · have : r = i := by omega
            subst this
            exact hno h1
        · refine Or.inr ⟨p, by omega, a2, a3, a4, a5, fun r hr h1 h3 => ?_⟩
          rcases Nat.lt_or_ge r i with h2 | h2
          · exact a6 r h2 h1 h3
          · have : r = i := by omega
            subst this
            exact absurd h3 (hno h1)
      show ∃ s', J (i + 1) s' ∧ mL_law_L512 hq q na (m + 1) s (nI i) = mL_law_L512 hq q na m s' (nI (i + 1))
      rw [mL_law_L512, if_neg (ge15 hi), rd15 hq hi, Option.bind_some, nI_1]
      by_cases e1 : hq i = 1
      · rw [if_pos e1, a_why hL hT hi e1 q, Option.bind_some]
        by_cases e2 : why (q 0) H k W (plc H k (pcd i)) = 0
        · rw [if_pos e2]
          rcases hI with ⟨a1, a2⟩ | ⟨p, a1, a2, a3, a4, a5, a6⟩
          · rw [a1, if_pos (by decide)]
            refine ⟨nI i, Or.inr ⟨i, by omega, hi, e1, e2, rfl, fun r hr h1 h3 => ?_⟩, rfl⟩
            rcases Nat.lt_or_ge r i with h2 | h2
            · exact absurd h3 (a2 r h2 h1)
            · have : r = i := by omega
              subst this
              exact Nat.le_refl _
          · rw [a5, if_neg (nI_pos (by omega)), pc_bef0 i hi p a2, Option.bind_some]
            by_cases c : pcd i < pcd p
            · rw [if_pos c, if_neg (by decide)]
              refine ⟨nI i, Or.inr ⟨i, by omega, hi, e1, e2, rfl, fun r hr h1 h3 => ?_⟩, rfl⟩
              rcases Nat.lt_or_ge r i with h2 | h2
              · have := a6 r h2 h1 h3
                omega
              · have : r = i := by omega
                subst this
                exact Nat.le_refl _
            · rw [if_neg c, if_pos rfl]
              refine ⟨nI p, Or.inr ⟨p, by omega, a2, a3, a4, rfl, fun r hr h1 h3 => ?_⟩, rfl⟩
              rcases Nat.lt_or_ge r i with h2 | h2
              · exact a6 r h2 h1 h3
              · have : r = i := by omega
                subst this
                omega
        · rw [if_neg e2]
          exact ⟨s, stay (fun _ => e2), rfl⟩
      · rw [if_neg e1]
        exact ⟨s, stay (fun h1 => absurd h1 e1), rfl⟩)
    (fun m s hI => by
      refine ⟨(s, nI 15), ⟨hI, rfl⟩, ?_⟩
      show mL_law_L512 hq q na (m + 1) s (nI 15) = _
      rw [mL_law_L512, if_pos le15])
    14 FU 1 (-1) (by omega) (by unfold FU; omega) (Or.inl ⟨rfl, fun r hr h1 => by
      have : r = 0 := by omega
      subst this
      have e0 : plc H k (pcd 0) = 0 := by
        have := h.ixi h.pos
        rw [h.k0] at this
        exact this
      rw [e0]
      exact why_root _ _ _ _⟩)
  obtain ⟨t1, t2⟩ := t
  obtain ⟨h1, h2⟩ := ht
  have h2 : t2 = nI 15 := h2
  subst h2
  have pl : ∀ j, j < H → ∃ r, r < 15 ∧ hq r = 1 ∧ plc H k (pcd r) = j ∧ k j = pcd r := by
    intro j hj
    obtain ⟨r, hr, er⟩ := hL.2 _ (h.c hj)
    exact ⟨r, hr, ((hL.1 r hr).2.2.1).mpr (by rw [← er]; exact h.c hj), by rw [← er, h.ixi hj], er⟩
  rcases h1 with ⟨a1, a2⟩ | ⟨p, a1, a2, a3, a4, a5, a6⟩
  · left
    have a1 : t1 = -1 := a1
    rw [a1] at e
    refine ⟨fun j hj => ?_, e⟩
    obtain ⟨r, hr, e1, e2, -⟩ := pl j hj
    rw [← e2]
    exact a2 r hr e1
  · right
    have a5 : t1 = nI p := a5
    rw [a5] at e
    refine ⟨p, a2, a3, a4, fun j hj hw => ?_, e⟩
    obtain ⟨i1, i2⟩ := h.ixe (((hL.1 p a2).2.2.1).mp a3)
    obtain ⟨r, hr, e1, e2, e3⟩ := pl j (by omega)
    have h5 := a6 r hr e1 (by rw [e2]; exact hw)
    have h6 := h.en.1 j _ hj i1
    rw [i2, e3] at h6
    omega
/-- the law's rounds do the moves -/
theorem rounds30 (q : Nat → Int32) : ∀ (d m i c cnt : Nat) (H : Nat) (k : Nat → Nat) (C : Nat → Prop) (hq : Nat → Int32) (H' : Nat) (k' : Nat → Nat), i + d = 15 → d < m → c ≤ d → Tn H k C N n W → LI na we hq C W → mvs (q 0) W c H k H' k' →
    ∃ hq' C', LI na we hq' C' W ∧ En H' k' C' ∧ mL_law_L499 q na m (nI cnt) (nI i) hq = some (nI (cnt + c), nI 15, hq') := by
  intro d
  induction d with
  | zero =>
    intro m i c cnt H k C hq H' k' hi hm hc hT hL hM
    obtain ⟨m, rfl⟩ : ∃ z, m = z + 1 := ⟨m - 1, by omega⟩
    have c0 : c = 0 := by omega
    subst c0
    obtain ⟨rfl, h2, -⟩ := hM
    have : i = 15 := by omega
    subst this
    refine ⟨hq, C, hL, ⟨fun a b h3 h4 => by rw [← h2 a (by omega), ← h2 b h4]; exact hT.1.en.1 a b h3 h4, fun a h3 => by rw [← h2 a h3]; exact hT.1.c h3, fun x hx => ?_⟩, ?_⟩
    · obtain ⟨j, hj, e⟩ := hT.1.en.2.2 x hx
      exact ⟨j, hj, by rw [← h2 j hj, e]⟩
    · rw [mL_law_L499, if_pos le15]
      rfl
  | succ d ih =>
    intro m i c cnt H k C hq H' k' hi hm hc hT hL hM
    obtain ⟨m, rfl⟩ : ∃ z, m = z + 1 := ⟨m - 1, by omega⟩
    rw [mL_law_L499, if_neg (ge15 (show i < 15 by omega))]
    rcases first30 hL hT q with ⟨f1, f2⟩ | ⟨p, f1, f2, f3, f4, f5⟩
    · have c0 : c = 0 := by
        rcases Nat.eq_zero_or_pos c with h0 | h0
        · exact h0
        · obtain ⟨c, rfl⟩ : ∃ z, c = z + 1 := ⟨c - 1, by omega⟩
          obtain ⟨p, p1, p2, -⟩ := hM
          exact absurd p2 (f1 p p1)
      subst c0
      rw [f2]
      simp only [Option.bind_some]
      rw [if_neg (by decide), nI_1]
      exact ih m (i + 1) 0 cnt H k C hq H' k' (by omega) (by omega) (by omega) hT hL hM
    · obtain ⟨i1, i2⟩ := hT.1.ixe (((hL.1 p f1).2.2.1).mp f2)
      have hc1 : ∃ z, c = z + 1 := by
        rcases Nat.eq_zero_or_pos c with h0 | h0
        · subst h0
          obtain ⟨-, -, h3⟩ := hM
          exact absurd f3 (h3 _ i1)
        · exact ⟨c - 1, by omega⟩
      obtain ⟨c, rfl⟩ := hc1
      obtain ⟨p9, p1, p2, p3, p4⟩ := hM
      have e9 : p9 = plc H k (pcd p) := by
        rcases Nat.lt_trichotomy p9 (plc H k (pcd p)) with h3 | h3 | h3
        · exact absurd p2 (f4 _ h3)
        · exact h3
        · exact absurd f3 (p3 _ h3)
      subst e9
      obtain ⟨w0, w1, w2, w3⟩ := why_0 f3
      obtain ⟨hq', C', r1, r2, r3⟩ := ih m (i + 1) c (cnt + 1) (H - 1) (delN k (plc H k (pcd p))) _ (upd hq p 0) H' k' (by omega) (by omega) (by omega) (hT.drop i1 w0 w1 w2) (hL.delH f1 i2) p4
      refine ⟨hq', C', r1, r2, ?_⟩
      rw [f5]
      simp only [Option.bind_some]
      rw [if_pos (show (0 : Int32) ≤ nI p from nI_le (a := 0) (Nat.zero_le _) (by omega)), wr15 hq 0 f1, Option.bind_some, nI_1, nI_1, r3, show cnt + 1 + c = cnt + (c + 1) by omega]
theorem H15 (hL : LI na we hq C W) (h : Hs H k C) : H ≤ 15 := h.en.card pcd 15 (fun x hx => by
  obtain ⟨p, hp, e⟩ := hL.2 x hx
  exact ⟨p, hp, e.symm⟩)
theorem En.same {H : Nat} {k : Nat → Nat} {P Q : Nat → Prop} (h1 : En H k P) (h2 : En H k Q) : ∀ y, P y ↔ Q y := fun y => by
  constructor
  · intro h
    obtain ⟨i, hi, e⟩ := h1.2.2 y h
    rw [← e]
    exact h2.2.1 i hi
  · intro h
    obtain ⟨i, hi, e⟩ := h2.2.2 y h
    rw [← e]
    exact h1.2.1 i hi
end Cmp
