/-! All houses move in that can. -/
theorem cn_surj {q : Nat → Bool} : ∀ {H p : Nat}, p < cn q H → ∃ j, j < H ∧ q j = true ∧ cn q j = p
  | 0, p, h => absurd h (Nat.not_lt_zero _)
  | H + 1, p, h => by
    rw [cn_s] at h
    rcases Nat.lt_or_ge p (cn q H) with h1 | h1
    · obtain ⟨j, hj, h2, h3⟩ := cn_surj h1
      exact ⟨j, by omega, h2, h3⟩
    · by_cases h2 : q H = true
      · rw [if_pos h2] at h
        exact ⟨H, by omega, h2, by omega⟩
      · rw [if_neg h2] at h
        omega
def unm (lv : Nat → Int32) (j : Nat) : Bool := decide (lv j = 0)
theorem unm_upd {lv : Nat → Int32} {i : Nat} {v : Int32} {j : Nat} (hj : j ≤ i) : cn (unm (upd lv i v)) j = cn (unm lv) j := cn_congr (fun q hq => by
  unfold unm
  rw [upd_of (by omega)])
section Comp
variable {ks ws : Nat → Int32} {H : Nat} {k : Nat → Nat} {W : Nat → Int32} {C : Nat → Prop} {N : Nat} {n : Nat → Nat}
theorem cmark_c {lv : Nat → Int32} (hH : H ≤ 193) {H' : Nat} {k' : Nat → Nat} (hK : Kc ks ws H k W) (h1 : cn (unm lv) H = H') (h2 : ∀ j, j < H → lv j = 0 → k' (cn (unm lv) j) = k j) :
    ∃ ks' ws', mX4_dropMarked 193 (nI H) ks ws lv = some (nI (H - H'), nI H', ks', ws') ∧ Kc ks' ws' H' k' W := by
  have hle := cn_le (unm lv) H
  obtain ⟨t, ht, e⟩ := lpI (fun m i (s : Int32 × (Nat → Int32) × (Nat → Int32)) => mX4_dropMarked_L4 (nI H) 193 lv m s.1 (nI i) s.2.1 s.2.2) H
    (fun i s => s.1 = nI (cn (unm lv) i) ∧ (∀ j, j < i → lv j = 0 → s.2.1 (cn (unm lv) j) = ks j ∧ s.2.2 (cn (unm lv) j) = ws j) ∧ ∀ j, i ≤ j → s.2.1 j = ks j ∧ s.2.2 j = ws j)
    (fun t => t.1 = nI (cn (unm lv) H) ∧ ∀ j, j < H → lv j = 0 → t.2.2.1 (cn (unm lv) j) = ks j ∧ t.2.2.2 (cn (unm lv) j) = ws j)
    (fun m i s hi hI => by
      obtain ⟨i1, i2, i3⟩ := hI
      have hci := cn_le (unm lv) i
      by_cases h3 : lv i = 0
      · have hu : unm lv i = true := decide_eq_true h3
        refine ⟨(nI (cn (unm lv) (i + 1)), upd s.2.1 (cn (unm lv) i) (ks i), upd s.2.2 (cn (unm lv) i) (ws i)), ⟨rfl, fun j hj hl => ?_, fun j hj => ?_⟩, ?_⟩
        · dsimp only
          rcases Nat.lt_or_ge j i with h4 | h4
          · have h5 : cn (unm lv) j < cn (unm lv) i := by
              have := cn_mono (unm lv) (show j + 1 ≤ i from h4)
              rw [cn_s, if_pos (show unm lv j = true from decide_eq_true hl)] at this
              omega
            rw [upd_of (by omega), upd_of (by omega)]
            exact i2 j h4 hl
          · have : j = i := by omega
            subst this
            rw [upd_at, upd_at]
            exact ⟨rfl, rfl⟩
        · dsimp only
          rw [upd_of (by omega), upd_of (by omega)]
          exact i3 j (by omega)
        · show mX4_dropMarked_L4 (nI H) 193 lv (m + 1) s.1 (nI i) s.2.1 s.2.2 = mX4_dropMarked_L4 (nI H) 193 lv m (nI (cn (unm lv) (i + 1))) (nI (i + 1)) _ _
          rw [mX4_dropMarked_L4, if_neg (nI_ge hi (by omega)), at_nI lv (by omega) (by omega), if_pos h3, i1, at_nI s.2.1 (by omega) (by omega), at_nI s.2.2 (by omega) (by omega), (i3 i (Nat.le_refl _)).1, (i3 i (Nat.le_refl _)).2, write_c _ _ (by omega)]
          simp only [Option.bind_some]
          rw [nI_1, nI_1, cn_s, if_pos hu]
      · have hu : ¬ unm lv i = true := fun h4 => h3 (of_decide_eq_true h4)
        refine ⟨s, ⟨by rw [cn_s, if_neg hu]; exact i1, fun j hj hl => ?_, fun j hj => i3 j (by omega)⟩, ?_⟩
        · rcases Nat.lt_or_ge j i with h4 | h4
          · exact i2 j h4 hl
          · have : j = i := by omega
            subst this
            exact absurd hl h3
        · show mX4_dropMarked_L4 (nI H) 193 lv (m + 1) s.1 (nI i) s.2.1 s.2.2 = mX4_dropMarked_L4 (nI H) 193 lv m s.1 (nI (i + 1)) s.2.1 s.2.2
          rw [mX4_dropMarked_L4, if_neg (nI_ge hi (by omega)), at_nI lv (by omega) (by omega), if_neg h3, nI_1])
    (fun m s hI => by
      refine ⟨(s.1, nI H, s.2), ⟨hI.1, hI.2.1⟩, ?_⟩
      show mX4_dropMarked_L4 (nI H) 193 lv (m + 1) s.1 (nI H) s.2.1 s.2.2 = _
      rw [mX4_dropMarked_L4, if_pos (nI_le (Nat.le_refl _) (by omega))])
    H FU 0 (0, ks, ws) (by omega) (by unfold FU; omega) ⟨rfl, fun j hj => absurd hj (Nat.not_lt_zero _), fun _ _ => ⟨rfl, rfl⟩⟩
  obtain ⟨t1, t2⟩ := ht
  obtain ⟨a, b, c, d⟩ := t
  dsimp only at t1 t2
  refine ⟨c, d, ?_, fun i hi => ?_⟩
  · unfold mX4_dropMarked
    rw [show mX4_dropMarked_L4 (nI H) 193 lv FU 0 0 ks ws = _ from e]
    simp only [Option.bind_some]
    rw [t1, h1, q_sub (by omega)]
  · rw [← h1] at hi
    obtain ⟨j, hj, hu, e2⟩ := cn_surj hi
    have hl : lv j = 0 := of_decide_eq_true hu
    have := t2 j hj hl
    rw [← e2, this.1, this.2, h2 j hj hl]
    exact hK j hj
/-- where the class's one walk stands, and the reference's town then -/
def Cp (L : Int32) (ca : Nat → Int32) (H0 : Nat) (k0 : Nat → Nat) (W : Nat → Int32) (H : Nat) (k : Nat → Nat) (p mny : Nat) (pa lv : Nat → Int32) : Prop :=
  H + mny = H0 ∧ (0 < mny → 0 < p) ∧ (∀ d, p + d < H → k (p + d) = k0 (p + d + mny) ∧ ca (p + d + mny) = nI (ch H k (p + d)) ∧ ∃ q, q < H0 ∧ pa (p + d + mny) = nI q ∧ k0 q = k (pr k (p + d))) ∧
  (∀ j, j < p → ¬ why L H k W j = 0) ∧ cn (unm lv) (p + mny) = p ∧ ∀ j, j < p + mny → lv j = 0 → k (cn (unm lv) j) = k0 j
theorem Cp.stay {L : Int32} {ca : Nat → Int32} {H0 : Nat} {k0 : Nat → Nat} {p mny : Nat} {pa lv : Nat → Int32} (hP : Cp L ca H0 k0 W H k p mny pa lv) (hp : p < H) (hw : ¬ why L H k W p = 0) : Cp L ca H0 k0 W H k (p + 1) mny pa (upd lv (p + mny) 0) := by
  obtain ⟨a1, a2, a3, a4, a5, a6⟩ := hP
  have e : cn (unm (upd lv (p + mny) 0)) (p + 1 + mny) = p + 1 := by
    rw [show p + 1 + mny = p + mny + 1 by omega, cn_s, unm_upd (Nat.le_refl _), a5]
    have : unm (upd lv (p + mny) 0) (p + mny) = true := by
      unfold unm
      rw [upd_at]
      rfl
    rw [if_pos this]
  refine ⟨a1, fun _ => by omega, fun d hd => ?_, fun j hj => ?_, e, fun j hj hl => ?_⟩
  · have := a3 (d + 1) (by omega)
    rw [show p + (d + 1) = p + 1 + d by omega] at this
    exact this
  · rcases Nat.lt_or_ge j p with h1 | h1
    · exact a4 j h1
    · have : j = p := by omega
      subst this
      exact hw
  · rw [unm_upd (by omega)]
    rcases Nat.lt_or_ge j (p + mny) with h1 | h1
    · rw [upd_of (by omega)] at hl
      exact a6 j h1 hl
    · have : j = p + mny := by omega
      subst this
      rw [a5]
      have := (a3 0 (by omega)).1
      exact this
theorem Cp.go {L : Int32} {ca : Nat → Int32} {H0 : Nat} {k0 : Nat → Nat} {p mny : Nat} {pa lv : Nat → Int32} (hT : Tn H k C N n W) (hP : Cp L ca H0 k0 W H k p mny pa lv) (hp : p < H) (hw : why L H k W p = 0) :
    Cp L ca H0 k0 W (H - 1) (delN k p) p (mny + 1) (upd pa (p + mny + 1) (pa (p + mny))) (upd lv (p + mny) 1) := by
  obtain ⟨a1, a2, a3, a4, a5, a6⟩ := hP
  obtain ⟨w0, w1, w2, w3⟩ := why_0 hw
  obtain ⟨x1, x2⟩ := hT.nx hp w0 w1
  have h := hT.1
  have c1 : ch H k p = 1 := by
    have : 0 < ch H k p := cn_pos (m := p + 1) x1 (by rw [decide_eq_true (show 0 < p + 1 by omega), decide_eq_true x2]; rfl)
    omega
  have hpr := pr_lt k (show 0 < p by omega)
  refine ⟨by omega, fun _ => by omega, fun d hd => ⟨?_, ?_, ?_⟩, fun j hj => ?_, ?_, fun j hj hl => ?_⟩
  · unfold delN
    rw [if_neg (by omega), Nat.add_assoc p d 1, (a3 (d + 1) (by omega)).1]
    congr 1
    omega
  · rw [ch_del1 h hp w0 c1 hd, show p + d + (mny + 1) = p + (d + 1) + mny by omega, (a3 (d + 1) (by omega)).2.1]
    unfold dl
    rw [if_neg (by omega)]
    rfl
  · have e1 := pr_del h hp w0 hd (show 0 < p + d by omega)
    have e2 : dl p (p + d) = p + d + 1 := by unfold dl; rw [if_neg (by omega)]
    rw [delN_dl, e1, e2]
    rcases Nat.eq_zero_or_pos d with d0 | d0
    · subst d0
      obtain ⟨q, q1, q2, q3⟩ := (a3 0 (by omega)).2.2
      refine ⟨q, q1, ?_, ?_⟩
      · rw [show p + 0 + (mny + 1) = p + mny + 1 by omega, upd_at]
        exact q2
      · rw [Nat.add_zero, if_pos x2]
        exact q3
    · obtain ⟨q, q1, q2, q3⟩ := (a3 (d + 1) (by omega)).2.2
      refine ⟨q, q1, ?_, ?_⟩
      · rw [upd_of (by omega), show p + d + (mny + 1) = p + (d + 1) + mny by omega]
        exact q2
      · rw [if_neg]
        · exact q3
        · intro e3
          have := ch_uniq (H := H) (k := k) (i := p) (by omega) (show p + d + 1 < H by omega) x1 (by omega) (by omega) e3 x2
          omega
  · -- who could not move before it cannot now
    intro hj0
    obtain ⟨v0, v1, v2, v3⟩ := why_0 hj0
    have e1 : delN k p j = k j := by unfold delN; rw [if_pos hj]
    rw [e1] at v1
    rw [ch_del1 h hp w0 c1 (by omega)] at v2
    have e2 : dl p j = j := by unfold dl; rw [if_pos hj]
    rw [e2] at v2
    have e3 : lb (delN k p) j = lb k j := by
      unfold lb
      rw [e1, pr_below k p hj]
      congr 2
      unfold delN
      rw [if_pos (by have := pr_le k j; omega)]
    have hle : lb k (j + 1) ≤ lb (delN k p) (j + 1) := by
      rcases Nat.lt_or_ge (j + 1) p with h1 | h1
      · unfold lb
        rw [pr_below k p h1]
        have e4 : delN k p (j + 1) = k (j + 1) := by unfold delN; rw [if_pos h1]
        have e5 : delN k p (pr k (j + 1)) = k (pr k (j + 1)) := by unfold delN; rw [if_pos (by have := pr_le k (j + 1); omega)]
        rw [e4, e5]
        exact Nat.le_refl _
      · have : j + 1 = p := by omega
        rw [this]
        have e4 := pr_del h hp w0 (show p < H - 1 by omega) (by omega)
        have e6 : dl p p = p + 1 := by unfold dl; rw [if_neg (by omega)]
        rw [e6, if_pos x2] at e4
        unfold lb
        rw [delN_dl k p p, delN_dl k p (pr (delN k p) p), e4, e6]
        have := h.lbp x1 (by omega)
        rw [x2] at this
        omega
    apply a4 j hj
    unfold why
    rw [if_neg v0, if_neg (by rw [v1]; decide), if_pos v2, if_pos]
    rw [e3] at v3
    have l1 := h.lb8 (i := j) (by omega)
    have l2 := (hT.drop hp w0 w1 w2).1.lb8 (i := j + 1) (by omega)
    exact Int32.le_trans (nI_le (by omega) (by omega)) v3
  · rw [show p + (mny + 1) = p + mny + 1 by omega, cn_s, unm_upd (Nat.le_refl _), a5]
    have : ¬ unm (upd lv (p + mny) 1) (p + mny) = true := by
      unfold unm
      rw [upd_at]
      decide
    rw [if_neg this]
    rfl
  · rw [unm_upd (by omega)]
    rcases Nat.lt_or_ge j (p + mny) with h1 | h1
    · rw [upd_of (by omega)] at hl
      have h5 : cn (unm lv) j < p := by
        have := cn_mono (unm lv) (show j + 1 ≤ p + mny from h1)
        rw [cn_s, if_pos (show unm lv j = true from decide_eq_true hl)] at this
        omega
      have e5 : delN k p (cn (unm lv) j) = k (cn (unm lv) j) := by unfold delN; rw [if_pos h5]
      rw [e5]
      exact a6 j h1 hl
    · have : j = p + mny := by omega
      subst this
      rw [upd_at] at hl
      exact absurd hl (by decide)
/-- what the class asks at its place is what the reference asks at its own -/
theorem Cp.reason {L : Int32} {ca : Nat → Int32} {H0 : Nat} {k0 : Nat → Nat} {p mny : Nat} {pa lv : Nat → Int32} (hT : Tn H k C N n W) (hK : Kc ks ws H0 k0 W) (h0H : H0 ≤ 193) (hP : Cp L ca H0 k0 W H k p mny pa lv) (hp : p < H) :
    mX5_reasonToStay L ks ws pa ca (nI (p + mny)) = why L H k W p := by
  obtain ⟨a1, a2, a3, a4, a5, a6⟩ := hP
  have h := hT.1
  have hH := h.le
  obtain ⟨b1, b2, q, b3, b4, b5⟩ := a3 0 (by omega)
  rw [Nat.add_zero] at b1 b2 b4 b5
  unfold mX5_reasonToStay why
  by_cases p0 : p = 0
  · have m0 : mny = 0 := by
      rcases Nat.eq_zero_or_pos mny with h1 | h1
      · exact h1
      · have := a2 h1
        omega
    subst p0 m0
    rw [if_pos (show nI (0 + 0) = 0 from nI_0), if_pos rfl]
  rw [if_neg (nI_ne0 (by omega) (by omega)), if_neg p0]
  have hho : mX4_isHome ws (nI (p + mny)) = if hm W (k p) then 1 else 0 := by
    unfold mX4_isHome
    rw [at_nI ws (by omega) (by omega), (hK (p + mny) (by omega)).2, ← b1]
    by_cases h1 : W (k p) = -1
    · rw [if_pos h1, if_neg (by rw [hm_iff]; exact fun h2 => h2 h1)]
    · rw [if_neg h1, if_pos (hm_iff.mpr h1)]
  rw [hho]
  by_cases h1 : hm W (k p) = true
  · rw [if_neg (by rw [ite01, h1]; decide), if_pos h1]
  · obtain ⟨hx1, hx2⟩ := hT.nx hp p0 (by rw [← Bool.not_eq_true]; exact h1)
    have hc := ch_le H k p
    rw [if_pos ((ite01 _).mpr (by rw [← Bool.not_eq_true]; exact h1)), if_neg h1, at_nI ca (by omega) (by omega), b2]
    by_cases h2 : ch H k p ≤ 1
    · rw [if_pos (show nI (ch H k p) ≤ 1 from nI_le (b := 1) h2 (by omega)), if_pos h2]
      have e : mX5_labelBehindMove ks pa (nI (p + mny)) = nI (lb k p + lb k (p + 1)) := by
        have l1 := h.lbp hp (by omega)
        have l2 := h.lbp hx1 (by omega)
        rw [hx2] at l2
        have b6 := (a3 1 (by omega)).1
        unfold mX5_labelBehindMove mX5_lengthFromParent
        rw [nI_1, at_nI ks (by omega) (by omega), (hK (p + mny + 1) (by omega)).1, at_nI pa (by omega) (by omega), b4, at_nI ks (by omega) (by omega), (hK q b3).1, len_c, len_c, b5, show k0 (p + mny + 1) = k (p + 1) by rw [b6]; congr 1; omega, q_sub (by omega)]
        unfold lb
        rw [hx2]
        congr 1
        omega
      rw [e]
    · rw [if_neg (show ¬ nI (ch H k p) ≤ 1 from nI_ge (a := 1) (by omega) (by omega)), if_neg h2]
end Comp
