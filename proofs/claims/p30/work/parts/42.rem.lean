/-! A name that goes; moves, evictions and weights. -/
section Rem
variable {ks ws : Nat → Int32} {H : Nat} {k : Nat → Nat} {W : Nat → Int32} {C : Nat → Prop} {N : Nat} {n : Nat → Nat}
theorem cidle_c (hK : Kc ks ws H k W) (h : Hs H k C) {ca : Nat → Int32} {i : Nat} (hi : i < H) (hca : ca i = nI (ch H k i)) : mX5_isIdle ws ca (nI i) = if i ≠ 0 ∧ hm W (k i) = false ∧ ch H k i = 0 then 1 else 0 := by
  have hH := h.le
  have hc := ch_le H k i
  unfold mX5_isIdle
  rw [isHome_c hK h hi, at_nI ca (by omega) (by omega), hca]
  by_cases h0 : i = 0
  · rw [if_pos (show nI i ≤ 0 from nI_le (b := 0) (by omega) (by omega)), if_neg (fun h1 => h1.1 h0)]
  · rw [if_neg (nI_nle (by omega) (by omega))]
    by_cases h1 : hm W (k i) = true
    · rw [if_neg (by rw [ite01, h1]; decide), if_neg (fun h2 => by rw [h1] at h2; exact absurd h2.2.1 (by decide))]
    · have h1' := (Bool.not_eq_true _).mp h1
      rw [if_pos ((ite01 _).mpr h1')]
      by_cases h2 : ch H k i = 0
      · rw [h2, if_pos nI_0, if_pos ⟨h0, h1', rfl⟩]
      · rw [if_neg (nI_ne0 (by omega) (by omega)), if_neg (fun h3 => h2 h3.2.2)]
/-- a house that moves in -/
theorem why_0 {L : Int32} {i : Nat} (hw : why L H k W i = 0) : i ≠ 0 ∧ hm W (k i) = false ∧ ch H k i ≤ 1 ∧ nI (lb k i + lb k (i + 1)) ≤ L := by
  unfold why at hw
  split at hw
  · exact absurd hw (by decide)
  rename_i h0
  split at hw
  · exact absurd hw (by decide)
  rename_i h1
  split at hw
  · rename_i h2
    split at hw
    · rename_i h3
      exact ⟨h0, (Bool.not_eq_true _).mp h1, h2, h3⟩
    · exact absurd hw (by decide)
  · exact absurd hw (by decide)
theorem cmove_c {pa ca ra ni wi ho : Nat → Int32} (hT : Tn H k C N n W) (hK : Kc ks ws H k W) (hS : Sv H k N n W pa ca ra ni wi ho) {x : Nat} (hx : C x) (L : Int32) (hw : why L H k W (plc H k x) = 0) (mv : Int32) :
    ∃ (ks' ws' pa' ca' ra' ni' wi' ho' : Nat → Int32),
      mX5_move (nI H) mv ks ws pa ca ra ni wi ho (nI x) = some (nI (lb k (plc H k x) + lb k (plc H k x + 1)), nI (H - 1), mv + 1, ks', ws', pa', ca', ra', ni', wi', ho') ∧
      Kc ks' ws' (H - 1) (delN k (plc H k x)) W ∧ Sv (H - 1) (delN k (plc H k x)) N n W pa' ca' ra' ni' wi' ho' := by
  have h := hT.1
  obtain ⟨p1, p2⟩ := h.ixe hx
  obtain ⟨w0, w1, w2, w3⟩ := why_0 hw
  obtain ⟨x1, x2⟩ := hT.nx p1 w0 w1
  have hT' := hT.drop p1 w0 w1 w2
  obtain ⟨ks', ws', b1, b2⟩ := cdrop_c hK h p1
  obtain ⟨pa', ca', ra', ni', wi', ho', e5, e6⟩ := survey_c b2 hT'.1 hT'.2.1 hT'.2.2.1 pa ca ra ni wi ho
  refine ⟨ks', ws', pa', ca', ra', ni', wi', ho', ?_, b2, e6⟩
  unfold mX5_move
  rw [(index_c hK h (h.2.2.1 x hx).l31).1 hx, Option.bind_some, b1]
  simp only [Option.bind_some]
  rw [e5]
  simp only [Option.bind_some]
  have e : mX5_labelBehindMove ks pa (nI (plc H k x)) = nI (lb k (plc H k x) + lb k (plc H k x + 1)) := by
    have l1 := h.lbp p1 (by omega)
    have l2 := h.lbp x1 (by omega)
    have hpl := pr_le k (plc H k x)
    rw [x2] at l2
    unfold mX5_labelBehindMove mX5_lengthFromParent
    rw [nI_1, hK.key h x1, hS.apa h p1, hK.key h (by omega), len_c, len_c, q_sub (by omega)]
    unfold lb
    rw [x2]
    congr 1
    omega
  rw [e]
theorem cevict_c (hT : Tn H k C N n W) (hK : Kc ks ws H k W) {x c : Nat} (hv : VN x) (hx : ¬ C x) (hc : C c) (hb : bgN x c) (ev : Int32) (pa ca ra ni wi ho : Nat → Int32) :
    ∃ (ks' ws' pa' ca' ra' ni' wi' ho' : Nat → Int32),
      mX5_part (nI H) ev ks ws pa ca ra ni wi ho (nI x) = some (nI (lb (insN k (plc H k x) x) (plc (H + 1) (insN k (plc H k x) x) x + 1)), nI (H + 1), ev + 1, ks', ws', pa', ca', ra', ni', wi', ho') ∧
      Kc ks' ws' (H + 1) (insN k (plc H k x) x) W ∧ Sv (H + 1) (insN k (plc H k x) x) N n W pa' ca' ra' ni' wi' ho' := by
  have hT' := hT.evict hv hx hc hb
  have hW : W x = -1 := by
    rcases Classical.em (W x = -1) with h3 | h3
    · exact h3
    · exact absurd (hT.2.2.1 _ h3) hx
  obtain ⟨ks', ws', b1, b2⟩ := cins_c hK hT.1 hv hx hW hT'.1.le
  obtain ⟨pa', ca', ra', ni', wi', ho', e5, e6⟩ := survey_c b2 hT'.1 hT'.2.1 hT'.2.2.1 pa ca ra ni wi ho
  have cx : (fun y => C y ∨ y = x) x := Or.inr rfl
  obtain ⟨p1, p2⟩ := hT'.1.ixe cx
  have x0 : x ≠ 0 := fun e => hx (by rw [e]; exact hT.1.2.1)
  obtain ⟨x1, x2⟩ := hT'.nx p1 (fun e => x0 (by
    rw [e, hT'.1.k0] at p2
    exact p2.symm)) (by rw [p2]; exact hm_f.mpr hW)
  refine ⟨ks', ws', pa', ca', ra', ni', wi', ho', ?_, b2, e6⟩
  unfold mX5_part
  rw [b1]
  simp only [Option.bind_some]
  rw [e5]
  simp only [Option.bind_some]
  rw [(index_c b2 hT'.1 hv.l31).1 cx, Option.bind_some, nI_1, clabel_c b2 e6 hT'.1 x1]
end Rem
