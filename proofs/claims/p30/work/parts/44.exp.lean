/-! Houses everywhere. -/
def sN (g : Nat → Nat) : Nat → Nat
  | 0 => 0
  | n + 1 => sN g n + g n
theorem sN_s (g : Nat → Nat) (n : Nat) : sN g (n + 1) = sN g n + g n := rfl
theorem sm_sN (g : Nat → Nat) : ∀ n, sm (fun j => nI (g j)) n = nI (sN g n)
  | 0 => rfl
  | n + 1 => by rw [sm_s, sN_s, sm_sN g n, nI_add]
theorem sN_mono (g : Nat → Nat) {m n : Nat} (h : m ≤ n) : sN g m ≤ sN g n := by
  induction n with
  | zero => have : m = 0 := by omega
            subst this; exact Nat.le_refl _
  | succ n ih =>
    rcases Nat.lt_or_ge n m with h1 | h1
    · have : m = n + 1 := by omega
      subst this; exact Nat.le_refl _
    · have := ih h1
      rw [sN_s]
      omega
def owS (g : Nat → Nat) (x : Nat) : Nat → Nat
  | 0 => 0
  | i + 1 => if 1 + sN g (i + 1) ≤ x then i + 1 else owS g x i
theorem owS_at {g : Nat → Nat} {x i : Nat} : ∀ {m : Nat}, i ≤ m → 1 + sN g i ≤ x → x < 1 + sN g (i + 1) → owS g x m = i
  | 0, h, _, _ => (Nat.le_zero.mp h).symm
  | m + 1, h, h1, h2 => by
    unfold owS
    rcases Nat.lt_or_ge m i with h3 | h3
    · have : i = m + 1 := by omega
      subst this
      rw [if_pos h1]
    · have h4 := sN_mono g (show i + 1 ≤ m + 1 by omega)
      rw [if_neg (by omega)]
      exact owS_at h3 h1 h2
theorem owS_ex (g : Nat → Nat) {x : Nat} : ∀ {H : Nat}, 1 ≤ x → x < 1 + sN g H → ∃ i, i < H ∧ 1 + sN g i ≤ x ∧ x < 1 + sN g (i + 1)
  | 0, h1, h2 => by
    have : sN g 0 = 0 := rfl
    omega
  | H + 1, h1, h2 => by
    rcases Nat.lt_or_ge x (1 + sN g H) with h3 | h3
    · obtain ⟨i, hi, h4⟩ := owS_ex g h1 h3
      exact ⟨i, by omega, h4⟩
    · exact ⟨H, by omega, h3, h2⟩
/-- what stands at a place when all labels have one letter -/
def kkN (H : Nat) (k : Nat → Nat) (x : Nat) : Nat := if x = 0 then 0 else ctN (k (owS (lb k) x (H - 1))) (lnN (k (pr k (owS (lb k) x (H - 1)))) + (x - sN (lb k) (owS (lb k) x (H - 1))))
def allC (C : Nat → Prop) (y : Nat) : Prop := ∃ c, C c ∧ ∃ l, l ≤ lnN c ∧ y = ctN c l
section Exp
variable {ks ws : Nat → Int32} {H : Nat} {k : Nat → Nat} {W : Nat → Int32} {C : Nat → Prop} {N : Nat} {n : Nat → Nat}
theorem kkN_at {i x : Nat} (hi : i < H) (h1 : 1 + sN (lb k) i ≤ x) (h2 : x < 1 + sN (lb k) (i + 1)) : kkN H k x = ctN (k i) (lnN (k (pr k i)) + (x - sN (lb k) i)) := by
  unfold kkN
  rw [if_neg (by omega), owS_at (show i ≤ H - 1 by omega) h1 h2]
theorem lb_pos (h : Hs H k C) {i : Nat} (hi : i < H) (h0 : 0 < i) : 0 < lb k i := by
  have := h.lbp hi h0
  unfold lb
  omega
theorem sN_ge (h : Hs H k C) : ∀ i, i ≤ H → i ≤ sN (lb k) i + 1 := by
  intro i
  induction i with
  | zero => intro _; omega
  | succ i ih =>
    intro hi
    have := ih (by omega)
    rw [sN_s]
    rcases Nat.eq_zero_or_pos i with h0 | h0
    · omega
    · have := lb_pos h (show i < H by omega) h0
      omega
/-- a house before another is before the first place on that one's label -/
theorem Tn.btw (hT : Tn H k C N n W) {i : Nat} (hi : i + 1 < H) : k i < ctN (k (i + 1)) (lnN (k (pr k (i + 1))) + 1) := by
  obtain ⟨h, hn, hC, hW0, hD, hM⟩ := hT
  have hp := pr_lt k (show 0 < i + 1 by omega)
  have hlb := h.lbp hi (by omega)
  have v1 := h.v hi
  have vi := h.v (show i < H by omega)
  have l8 := v1.len
  have hkk := h.en.1 i (i + 1) (by omega) hi
  have hpb := h.prb hi
  rcases Nat.lt_or_ge (pr k (i + 1)) i with h1 | h1
  · rcases Nat.lt_or_ge (k i) (ctN (k (i + 1)) (lnN (k (pr k (i + 1))) + 1)) with h2 | h2
    · exact h2
    · exfalso
      have va := ct_VN (k := k (i + 1)) (l := lnN (k (pr k (i + 1))) + 1) v1.lt (by omega)
      have b1 := ct_bg v1 (show lnN (k (pr k (i + 1))) + 1 ≤ lnN (k (i + 1)) by omega)
      have b2 := bg_mid b1 h2 (Nat.le_of_lt hkk)
      have e1 : ctN (k i) (lnN (k (pr k (i + 1))) + 1) = ctN (k (i + 1)) (lnN (k (pr k (i + 1))) + 1) := by
        have := ((bg_ct va vi).mp b2).2
        rw [ct_len (by omega)] at this
        exact this.symm
      have hl1 := bg_len va vi b2
      rw [ct_len (by omega)] at hl1
      have hl := lcl_le (k i) (k (i + 1)) (min (lnN (k i)) (lnN (k (i + 1))))
      have he := lcl_eq vi v1 (min (lnN (k i)) (lnN (k (i + 1))))
      have hmx := lcl_max (x := k i) (y := k (i + 1)) (min (lnN (k i)) (lnN (k (i + 1))))
      generalize lcl (k i) (k (i + 1)) (min (lnN (k i)) (lnN (k (i + 1)))) = l at *
      have hge : lnN (k (pr k (i + 1))) + 1 ≤ l := by
        rcases Nat.lt_or_ge l (lnN (k (pr k (i + 1))) + 1) with h3 | h3
        · exact absurd e1 (hmx _ h3 (by omega))
        · exact h3
      -- some house stands for what both share
      have hcl : C (ctN (k (i + 1)) l) ∧ l < lnN (k (i + 1)) := by
        rcases Nat.lt_or_ge l (lnN (k i)) with h3 | h3
        · rcases Nat.lt_or_ge l (lnN (k (i + 1))) with h4 | h4
          · refine ⟨?_, h4⟩
            rw [← he]
            exact hM _ _ l (h.c (by omega)) (h.c hi) h3 h4 he (hmx _ (by omega) (by omega))
          · exfalso
            have : l = lnN (k (i + 1)) := by omega
            have b3 := ct_bg vi (l := l) (by omega)
            rw [he, this, ct_self v1] at b3
            have := b3.1
            omega
        · have el : l = lnN (k i) := by omega
          have e3 : ctN (k (i + 1)) l = k i := by rw [← he, el, ct_self vi]
          refine ⟨by rw [e3]; exact h.c (by omega), ?_⟩
          rcases Nat.lt_or_ge l (lnN (k (i + 1))) with h4 | h4
          · exact h4
          · exfalso
            have : l = lnN (k (i + 1)) := by omega
            rw [this, ct_self v1] at e3
            omega
      obtain ⟨hc, h4⟩ := hcl
      obtain ⟨j, hj, ej⟩ := h.en.2.2 _ hc
      have h5 := ct_lt v1 h4 (Nat.le_refl _)
      rw [ct_self v1, ← ej] at h5
      have h6 := (h.en.lt hj hi).mp h5
      have h7 : bgN (k j) (k (i + 1)) := by
        rw [ej]
        exact ct_bg v1 (Nat.le_of_lt h4)
      have h8 := h.prm hi h6 h7
      have h9 := h.pri hi h6
      have h10 := bg_len (h.v hj) (h.v (by omega)) (h9.mp h7)
      rw [ej, ct_len (by omega)] at h10
      omega
  · have e : pr k (i + 1) = i := by omega
    rw [e] at hpb hlb ⊢
    have h2 := ct_lt v1 (show lnN (k i) < lnN (k i) + 1 by omega) (by omega)
    have h3 := ((bg_ct vi v1).mp hpb).2
    omega
theorem kk_en (hT : Tn H k C N n W) : En (1 + sN (lb k) H) (kkN H k) (allC C) := by
  have h := hT.1
  have step : ∀ x, x + 1 < 1 + sN (lb k) H → kkN H k x < kkN H k (x + 1) := by
    intro x hx
    obtain ⟨j, hj, j1, j2⟩ := owS_ex (lb k) (show 1 ≤ x + 1 by omega) hx
    have vj := h.v hj
    have l8 := vj.len
    have hj0 : 0 < j := by
      rcases Nat.eq_zero_or_pos j with h0 | h0
      · subst h0
        have : sN (lb k) (0 + 1) = 0 := by rw [sN_s, lb_0]; rfl
        omega
      · exact h0
    have hlb := h.lbp hj hj0
    have e1 := sN_s (lb k) j
    have e2 : lb k j = lnN (k j) - lnN (k (pr k j)) := rfl
    rw [kkN_at hj j1 j2]
    rcases Nat.eq_zero_or_pos x with h0 | h0
    · subst h0
      show 0 < _
      have e3 := ct_len (k := k j) (l := lnN (k (pr k j)) + (0 + 1 - sN (lb k) j)) (by omega)
      rcases Nat.eq_zero_or_pos (ctN (k j) (lnN (k (pr k j)) + (0 + 1 - sN (lb k) j))) with h4 | h4
      · rw [h4, ln_0] at e3
        omega
      · exact h4
    · rcases Nat.lt_or_ge x (1 + sN (lb k) j) with h1 | h1
      · -- the place before is the last of the house before
        have hx2 : x = sN (lb k) j := by omega
        obtain ⟨i, rfl⟩ : ∃ i, j = i + 1 := ⟨j - 1, by omega⟩
        have e3 := sN_s (lb k) i
        have hi0 : 0 < lb k i := by
          rcases Nat.eq_zero_or_pos i with h5 | h5
          · subst h5
            have : sN (lb k) (0 + 1) = 0 := by rw [sN_s, lb_0]; rfl
            omega
          · exact lb_pos h (by omega) h5
        have hip : 0 < i := by
          rcases Nat.eq_zero_or_pos i with h5 | h5
          · subst h5
            rw [lb_0] at hi0
            omega
          · exact h5
        have hlbi := h.lbp (show i < H by omega) hip
        have e4 : lb k i = lnN (k i) - lnN (k (pr k i)) := rfl
        rw [kkN_at (show i < H by omega) (show 1 + sN (lb k) i ≤ x by omega) (by omega)]
        rw [show lnN (k (pr k i)) + (x - sN (lb k) i) = lnN (k i) by omega, ct_self (h.v (by omega)), show lnN (k (pr k (i + 1))) + (x + 1 - sN (lb k) (i + 1)) = lnN (k (pr k (i + 1))) + 1 by omega]
        exact hT.btw hj
      · rw [kkN_at hj h1 (by omega)]
        exact ct_lt vj (by omega) (by omega)
  refine ⟨fun i j hij hj => ?_, fun x hx => ?_, fun y hy => ?_⟩
  · obtain ⟨d, rfl⟩ : ∃ d, j = i + 1 + d := ⟨j - (i + 1), by omega⟩
    induction d with
    | zero => exact step i hj
    | succ d ih => exact Nat.lt_trans (ih (by omega) (by omega)) (step (i + 1 + d) (by omega))
  · rcases Nat.eq_zero_or_pos x with h0 | h0
    · subst h0
      exact ⟨0, h.2.1, 0, Nat.zero_le _, (ct_0 VN0).symm⟩
    · obtain ⟨j, hj, j1, j2⟩ := owS_ex (lb k) (show 1 ≤ x by omega) hx
      have e1 := sN_s (lb k) j
      have e2 : lb k j = lnN (k j) - lnN (k (pr k j)) := rfl
      rw [kkN_at hj j1 j2]
      exact ⟨k j, h.c hj, _, by omega, rfl⟩
  · obtain ⟨c, hc, l, hl, e⟩ := hy
    obtain ⟨j, hj, ej⟩ := h.en.2.2 c hc
    have key : ∀ j, j < H → ∀ l, 0 < l → l ≤ lnN (k j) → ∃ x, x < 1 + sN (lb k) H ∧ kkN H k x = ctN (k j) l := by
      intro j
      induction j using Nat.strongRecOn with
      | ind j ih =>
        intro hj l l0 hl
        rcases Nat.eq_zero_or_pos j with h0 | h0
        · subst h0
          rw [h.k0, ln_0] at hl
          omega
        · have hp := pr_lt k h0
          rcases Nat.lt_or_ge (lnN (k (pr k j))) l with h1 | h1
          · have e1 := sN_s (lb k) j
            have e2 : lb k j = lnN (k j) - lnN (k (pr k j)) := rfl
            have e3 := sN_mono (lb k) (show j + 1 ≤ H from hj)
            refine ⟨sN (lb k) j + (l - lnN (k (pr k j))), by omega, ?_⟩
            rw [kkN_at hj (by omega) (by omega)]
            congr 1
            omega
          · obtain ⟨x, hx, e⟩ := ih (pr k j) hp (by omega) l l0 h1
            exact ⟨x, hx, by rw [e]; exact ct_of_bg (h.v (by omega)) (h.v hj) (h.prb hj) h1⟩
    rcases Nat.eq_zero_or_pos l with h0 | h0
    · refine ⟨0, by omega, ?_⟩
      subst h0
      rw [e, ct_0 (h.2.2.1 c hc)]
      rfl
    · obtain ⟨x, hx, e2⟩ := key j hj l h0 (by rw [ej]; exact hl)
      exact ⟨x, hx, by rw [e2, ej]; exact e.symm⟩
/-- the class writes a house and those on its label -/
theorem cwp_c {pa ks' ws' : Nat → Int32} (hT : Tn H k C N n W) (hE : 1 + sN (lb k) H ≤ 193) (hpa : ∀ i, i < H → pa i = nI (pr k i)) {i : Nat} (hi : i < H) (h0 : 0 < i) (hk : ∀ j, j ≤ i → ks' j = nI (k j) ∧ ws' j = W (k j))
    (hr : ∀ x, 1 + sN (lb k) (i + 1) ≤ x → x < 1 + sN (lb k) H → ks' x = nI (kkN H k x) ∧ ws' x = W (kkN H k x)) :
    ∃ ks2 ws2, mX5_writeParted ks' ws' pa (nI i) (nI (1 + sN (lb k) (i + 1))) = some (nI (1 + sN (lb k) i), ks2, ws2) ∧ (∀ j, j < i → ks2 j = nI (k j) ∧ ws2 j = W (k j)) ∧
      ∀ x, 1 + sN (lb k) i ≤ x → x < 1 + sN (lb k) H → ks2 x = nI (kkN H k x) ∧ ws2 x = W (kkN H k x) := by
  have h := hT.1
  have hH := h.le
  have hp := pr_lt k h0
  have hlb := h.lbp hi h0
  have v := h.v hi
  have l8 := v.len
  have e1 := sN_s (lb k) i
  have e2 : lb k i = lnN (k i) - lnN (k (pr k i)) := rfl
  have e3 := sN_mono (lb k) (show i + 1 ≤ H from hi)
  have e4 := sN_ge h i (by omega)
  have hlab : mX5_labelLength ks' pa (nI i) = nI (lb k i) := by
    unfold mX5_labelLength mX5_lengthFromParent
    rw [at_nI ks' (by omega) (by omega), (hk i (Nat.le_refl _)).1, at_nI pa (by omega) (by omega), hpa i hi, at_nI ks' (by omega) (by omega), (hk _ (by omega)).1, len_c, len_c, q_sub (by omega)]
    rfl
  -- what lies within the label is no name
  have hin : ∀ l, lnN (k (pr k i)) < l → l < lnN (k i) → W (ctN (k i) l) = -1 := by
    intro l h1 h2
    rcases Classical.em (W (ctN (k i) l) = -1) with h3 | h3
    · exact h3
    · exfalso
      obtain ⟨j, hj, ej⟩ := h.en.2.2 _ (hT.2.2.1 _ h3)
      have h5 := ct_lt v h2 (Nat.le_refl _)
      rw [ct_self v, ← ej] at h5
      have h6 := (h.en.lt hj hi).mp h5
      have h7 : bgN (k j) (k i) := by
        rw [ej]
        exact ct_bg v (Nat.le_of_lt h2)
      have h10 := bg_len (h.v hj) (h.v (by omega)) ((h.pri hi h6).mp h7)
      rw [ej, ct_len (by omega)] at h10
      omega
  obtain ⟨t, ht, e⟩ := lpD (fun m z (s : Int32 × (Nat → Int32) × (Nat → Int32)) => mX5_writeParted_L54 (nI (1 + sN (lb k) i)) (nI (k i)) m s.1 (nI z - 1) s.2.1 s.2.2) (1 + sN (lb k) i)
    (fun z s => z ≤ sN (lb k) (i + 1) ∧ s.1 = nI (lnN (k (pr k i)) + (z - sN (lb k) i)) ∧ (∀ j, j < i → s.2.1 j = nI (k j) ∧ s.2.2 j = W (k j)) ∧ ∀ x, z ≤ x → x < 1 + sN (lb k) H → s.2.1 x = nI (kkN H k x) ∧ s.2.2 x = W (kkN H k x))
    (fun t => (∀ j, j < i → t.2.2.1 j = nI (k j) ∧ t.2.2.2 j = W (k j)) ∧ ∀ x, 1 + sN (lb k) i ≤ x → x < 1 + sN (lb k) H → t.2.2.1 x = nI (kkN H k x) ∧ t.2.2.2 x = W (kkN H k x))
    (fun m z s hz hI => by
      obtain ⟨i0, i1, i2, i3⟩ := hI
      have hl : lnN (k (pr k i)) + (z + 1 - sN (lb k) i) = lnN (k (pr k i)) + (z - sN (lb k) i) + 1 := by omega
      have ek : kkN H k z = ctN (k i) (lnN (k (pr k i)) + (z - sN (lb k) i)) := kkN_at hi hz (by omega)
      refine ⟨(nI (lnN (k (pr k i)) + (z - sN (lb k) i)), upd s.2.1 z (nI (kkN H k z)), upd s.2.2 z (-1)), ⟨by omega, rfl, fun j hj => ?_, fun x h1 h2 => ?_⟩, ?_⟩
      · dsimp only
        rw [upd_of (by omega), upd_of (by omega)]
        exact i2 j hj
      · dsimp only
        rcases Nat.lt_or_ge z x with h3 | h3
        · rw [upd_of (by omega), upd_of (by omega)]
          exact i3 x h3 h2
        · have : x = z := by omega
          subst this
          rw [upd_at, upd_at, ek]
          exact ⟨rfl, (hin _ (by omega) (by omega)).symm⟩
      · show mX5_writeParted_L54 (nI (1 + sN (lb k) i)) (nI (k i)) (m + 1) s.1 (nI (z + 1) - 1) s.2.1 s.2.2 = mX5_writeParted_L54 (nI (1 + sN (lb k) i)) (nI (k i)) m _ (nI z - 1) _ _
        rw [nI_pred, mX5_writeParted_L54, if_neg (nI_nlt (by omega) (by omega)), i1, hl, q_m1, cut_c (by omega) v.l31, write_c _ _ (by omega)]
        simp only [Option.bind_some]
        rw [ek, Int32.sub_eq_add_neg])
    (fun m s hI => by
      obtain ⟨i0, i1, i2, i3⟩ := hI
      refine ⟨(s.1, nI (1 + sN (lb k) i) - 1, s.2), ⟨i2, i3⟩, ?_⟩
      show mX5_writeParted_L54 (nI (1 + sN (lb k) i)) (nI (k i)) (m + 1) s.1 (nI (1 + sN (lb k) i) - 1) s.2.1 s.2.2 = _
      rw [Nat.add_comm 1, nI_pred, mX5_writeParted_L54, if_pos (nI_lt (by omega) (by omega))])
    (lb k i - 1) FU (sN (lb k) (i + 1)) (nI (lnN (k i)), upd ks' (sN (lb k) (i + 1)) (nI (k i)), upd ws' (sN (lb k) (i + 1)) (W (k i))) (by omega) (by unfold FU; omega)
    ⟨Nat.le_refl _, congrArg nI (by omega), fun j hj => by
      dsimp only
      rw [upd_of (by omega), upd_of (by omega)]
      exact hk j (by omega), fun x h1 h2 => by
      dsimp only
      rcases Nat.lt_or_ge (sN (lb k) (i + 1)) x with h3 | h3
      · rw [upd_of (by omega), upd_of (by omega)]
        exact hr x (by omega) h2
      · have : x = sN (lb k) (i + 1) := by omega
        rw [this, upd_at, upd_at, kkN_at hi (by omega) (by omega), show lnN (k (pr k i)) + (sN (lb k) (i + 1) - sN (lb k) i) = lnN (k i) by omega, ct_self v]
        exact ⟨rfl, rfl⟩⟩
  obtain ⟨t1, t2⟩ := ht
  refine ⟨t.2.2.1, t.2.2.2, ?_, t1, t2⟩
  unfold mX5_writeParted
  rw [show nI (1 + sN (lb k) (i + 1)) - 1 = nI (sN (lb k) (i + 1)) by rw [Nat.add_comm 1, nI_pred], show nI (1 + sN (lb k) (i + 1)) - 2 = nI (sN (lb k) (i + 1)) - 1 by rw [Nat.add_comm 1, ← nI_1, show (2 : Int32) = 1 + 1 from rfl, ← Int32.sub_sub, Int32.add_sub_cancel],
    at_nI ks' (by omega) (by omega), (hk i (Nat.le_refl _)).1, at_nI ws' (by omega) (by omega), (hk i (Nat.le_refl _)).2, write_c _ _ (by omega)]
  simp only [Option.bind_some]
  rw [hlab, len_c, q_sub (by omega), show 1 + sN (lb k) (i + 1) - lb k i = 1 + sN (lb k) i by omega, show mX5_writeParted_L54 (nI (1 + sN (lb k) i)) (nI (k i)) FU (nI (lnN (k i))) (nI (sN (lb k) (i + 1)) - 1) _ _ = _ from e]
  rfl
theorem cexp_c {pa ca ra ni wi ho : Nat → Int32} (hT : Tn H k C N n W) (hK : Kc ks ws H k W) (hS : Sv H k N n W pa ca ra ni wi ho) (ev : Int32) {H' : Nat} {k' : Nat → Nat} (hT' : Tn H' k' (allC C) N n W) :
    ∃ (ks' ws' pa' ca' ra' ni' wi' ho' : Nat → Int32), mX5_partAll (nI H) ev ks ws pa ca ra ni wi ho = some (nI (H' - H), nI H', ev + nI (H' - H), ks', ws', pa', ca', ra', ni', wi', ho') ∧ Kc ks' ws' H' k' W ∧ Sv H' k' N n W pa' ca' ra' ni' wi' ho' ∧ H ≤ H' := by
  have h := hT.1
  have hH := h.le
  have hpos := h.pos
  have hE := kk_en hT
  obtain ⟨eH, ek⟩ := hE.uniq hT'.1.en
  have hH' := hT'.1.le
  have hge := sN_ge h H (Nat.le_refl _)
  obtain ⟨t, ht, e⟩ := lpD (fun m i (s : Int32 × (Nat → Int32) × (Nat → Int32)) => mX5_partAll_L35 pa m s.1 (nI i) s.2.1 s.2.2) 0
    (fun i s => i < H ∧ s.1 = nI (1 + sN (lb k) (i + 1)) ∧ (∀ j, j ≤ i → s.2.1 j = nI (k j) ∧ s.2.2 j = W (k j)) ∧ ∀ x, 1 + sN (lb k) (i + 1) ≤ x → x < 1 + sN (lb k) H → s.2.1 x = nI (kkN H k x) ∧ s.2.2 x = W (kkN H k x))
    (fun t => ∀ x, x < 1 + sN (lb k) H → t.2.2.1 x = nI (kkN H k x) ∧ t.2.2.2 x = W (kkN H k x))
    (fun m i s _ hI => by
      obtain ⟨i0, i1, i2, i3⟩ := hI
      obtain ⟨ks2, ws2, w1, w2, w3⟩ := cwp_c hT (by omega) (fun j hj => (hS.1 j hj).1) i0 (by omega) i2 i3
      refine ⟨(nI (1 + sN (lb k) (i + 1)), ks2, ws2), ⟨by omega, rfl, fun j hj => w2 j (by omega), w3⟩, ?_⟩
      show mX5_partAll_L35 pa (m + 1) s.1 (nI (i + 1)) s.2.1 s.2.2 = mX5_partAll_L35 pa m _ (nI i) _ _
      rw [mX5_partAll_L35, if_neg (nI_nle (by omega) (by omega)), i1, w1]
      simp only [Option.bind_some]
      rw [q_m1])
    (fun m s hI => by
      obtain ⟨i0, i1, i2, i3⟩ := hI
      refine ⟨(s.1, nI 0, s.2), fun x hx => ?_, ?_⟩
      · dsimp only
        rcases Nat.eq_zero_or_pos x with h0 | h0
        · subst h0
          have := i2 0 (Nat.le_refl _)
          rw [h.k0] at this
          exact this
        · have : sN (lb k) (0 + 1) = 0 := by rw [sN_s, lb_0]; rfl
          exact i3 x (by omega) hx
      · show mX5_partAll_L35 pa (m + 1) s.1 (nI 0) s.2.1 s.2.2 = _
        rw [mX5_partAll_L35, if_pos (show nI 0 ≤ 0 from nI_le (b := 0) (Nat.le_refl _) (by omega))])
    (H - 1) FU (H - 1) (nI (1 + sN (lb k) H), ks, ws) (by omega) (by unfold FU; omega) ⟨by omega, by rw [show H - 1 + 1 = H by omega], fun j hj => hK j (by omega), fun x h1 h2 => by
      rw [show H - 1 + 1 = H by omega] at h1
      omega⟩
  have hK' : Kc t.2.2.1 t.2.2.2 H' k' W := by
    intro i hi
    rw [← eH] at hi
    rw [← ek i hi]
    exact ht i hi
  obtain ⟨pa', ca', ra', ni', wi', ho', e5, e6⟩ := survey_c hK' hT'.1 hT'.2.1 hT'.2.2.1 pa ca ra ni wi ho
  refine ⟨_, _, pa', ca', ra', ni', wi', ho', ?_, hK', e6, by omega⟩
  have a1 : nI (sN (lb k) H) - (nI H - 1) = nI (H' - H) := by
    rw [show nI H - 1 = nI (H - 1) by rw [← nI_pred (H - 1), show H - 1 + 1 = H by omega], q_sub (by omega)]
    congr 1
    omega
  have a2 : nI H + nI (H' - H) = nI H' := by
    rw [nI_add]
    congr 1
    omega
  unfold mX5_partAll
  rw [cletl_c hK hS h, Option.bind_some, sm_sN, a1, a2, show nI H - 1 = nI (H - 1) by rw [← nI_pred (H - 1), show H - 1 + 1 = H by omega], ← eH, show mX5_partAll_L35 pa FU (nI (1 + sN (lb k) H)) (nI (H - 1)) ks ws = _ from e]
  simp only [Option.bind_some]
  rw [eH, e5]
  rfl
end Exp
