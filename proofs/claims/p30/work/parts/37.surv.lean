/-! The survey of a town. -/
def Sv (H : Nat) (k : Nat → Nat) (N : Nat) (n : Nat → Nat) (W : Nat → Int32) (pa ca ra ni wi ho : Nat → Int32) : Prop :=
  (∀ i, i < H → pa i = nI (pr k i) ∧ ca i = nI (ch H k i) ∧ ra i = nI (dp H k (k i) - 1) ∧ ni i = nI (nbl N n (k i)) ∧ wi i = wbl N n W (k i)) ∧ ∀ r, r < N → ho r = nI (plc H k (n r))
theorem sm_plus {f g h : Nat → Int32} : ∀ {n : Nat}, (∀ i, i < n → h i = f i + g i) → sm h n = sm f n + sm g n
  | 0, _ => rfl
  | n + 1, e => by
    rw [sm_s, sm_s, sm_s, sm_plus (n := n) (fun i hi => e i (by omega)), e n (by omega)]
    simp only [Int32.add_assoc]
    rw [← Int32.add_assoc (sm g n), Int32.add_comm (sm g n), Int32.add_assoc]
theorem sm_one {f : Nat → Int32} {m n : Nat} (hm : m < n) (h : ∀ i, i < n → i ≠ m → f i = 0) : sm f n = f m := by
  obtain ⟨d, rfl⟩ : ∃ d, n = (m + 1) + d := ⟨n - (m + 1), by omega⟩
  rw [sm_add, sm_s, sm_zero (fun i hi => h i (by omega) (by omega)), sm_zero (fun i hi => h (m + 1 + i) (by omega) (by omega)), Int32.add_zero, Int32.zero_add]
section Survey
variable {ks ws : Nat → Int32} {H : Nat} {k : Nat → Nat} {W : Nat → Int32} {C : Nat → Prop} {N : Nat} {n : Nat → Nat}
theorem fpar_c (hK : Kc ks ws H k W) (h : Hs H k C) (pa : Nat → Int32) {i : Nat} (hi : i < H) (hp : ∀ j, j < i → pa j = nI (pr k j)) : mX5_findParent ks pa (nI i) = some (nI (pr k i)) := by
  have hH := h.le
  have key : ∀ d m q, lnN (k q) ≤ d → d ≤ 8 → (q < i ∨ (q = 0 ∧ i = 0)) → pr k i ≤ q → bgN (k (pr k i)) (k q) → d < m → ∃ a b, mX5_findParent_L10 ks (nI i) pa m (nI q) (nI (8 - d)) = some (a, nI (pr k i), b) := by
    intro d
    induction d with
    | zero =>
      intro m q h1 h2 h3 h4 h5 h6
      obtain ⟨m, rfl⟩ : ∃ z, m = z + 1 := ⟨m - 1, by omega⟩
      have h7 := ln0 (h.v (by omega)) (Nat.le_zero.mp h1)
      have h8 : q = 0 := h.en.inj (by omega) h.pos (by rw [h7, h.k0])
      refine ⟨1, nI 8, ?_⟩
      rw [mX5_findParent_L10, if_pos (show (8 : Int32) ≤ nI (8 - 0) by decide +kernel)]
      have : pr k i = q := by omega
      rw [this]
    | succ d ih =>
      intro m q h1 h2 h3 h4 h5 h6
      obtain ⟨m, rfl⟩ : ∃ z, m = z + 1 := ⟨m - 1, by omega⟩
      rw [mX5_findParent_L10, if_neg (show ¬ (8 : Int32) ≤ nI (8 - (d + 1)) from nI_ge (b := 8) (by omega) (by omega)), hK.key h (by omega), hK.key h hi, beg_c (h.v (by omega)) (h.v hi)]
      by_cases hb : bgB (k q) (k i) = true
      · rw [if_neg (by rw [ite01, hb]; decide)]
        refine ⟨0, nI (8 - (d + 1)), ?_⟩
        have : pr k i = q := by
          rcases h3 with h3 | h3
          · have := h.prm hi h3 (bgB_iff.mp hb)
            omega
          · rw [h3.2, h3.1]; rfl
        rw [this]
      · rw [if_pos ((ite01 _).mpr (by rw [← Bool.not_eq_true]; exact hb))]
        have hq : q < i := by
          rcases h3 with h3 | h3
          · exact h3
          · exfalso
            rw [h3.1, h3.2] at hb
            exact hb (bgB_iff.mpr (bg_rfl _))
        have hq0 : 0 < q := by
          rcases Nat.eq_zero_or_pos q with h7 | h7
          · subst h7
            exact absurd (bgB_iff.mpr (h.bg0 (h.v hi))) hb
          · exact h7
        have hne : pr k i ≠ q := by
          intro e
          have := h.prb hi
          rw [e] at this
          exact hb (bgB_iff.mpr this)
        have hl := h.lbp (i := q) (by omega) hq0
        have hpl := pr_lt k hq0
        rw [at_nI pa (by omega) (by omega), hp q hq, nI_1, show 8 - (d + 1) + 1 = 8 - d by omega]
        have h9 := h.prm (i := q) (j := pr k i) (by omega) (by omega) h5
        exact ih m (pr k q) (by omega) (by omega) (Or.inl (by omega)) h9 ((h.pri (by omega) (by omega)).mp h5) (by omega)
  have start : (if nI i - 1 < 0 then (0 : Int32) else nI i - 1) = nI (i - 1) := by
    rcases Nat.eq_zero_or_pos i with h0 | h0
    · subst h0; rfl
    · rw [show nI i - 1 = nI (i - 1) by rw [← nI_pred (i - 1), show i - 1 + 1 = i by omega], if_neg (nI_pos (by omega))]
  have hle := prS_lt k (k i) (i - 1)
  obtain ⟨a, b, e⟩ := key 8 FU (i - 1) ((h.v (by omega)).len) (Nat.le_refl _) (by omega) hle (by
    rcases Nat.eq_zero_or_pos i with h0 | h0
    · subst h0; exact bg_rfl _
    · have h1 := h.prb hi
      have h2 := pr_lt k h0
      exact bg_mid h1 ((h.en.le (by omega) (by omega)).mpr hle) ((h.en.le (by omega) hi).mpr (by omega))) (by unfold FU; omega)
  unfold mX5_findParent
  rw [start, show mX5_findParent_L10 ks (nI i) pa FU (nI (i - 1)) 0 = _ from e]
  simp only [Option.bind_some, ite_self]
/-- the first walk of the survey, after i houses -/
def S1 (k : Nat → Nat) (H : Nat) (W : Nat → Int32) (n : Nat → Nat) (i : Nat) (s : Int32 × (Nat → Int32) × (Nat → Int32) × (Nat → Int32) × (Nat → Int32) × (Nat → Int32) × (Nat → Int32)) : Prop :=
  s.1 = nI (cn (fun j => hm W (k j)) i) ∧ (∀ j, j < i → s.2.1 j = nI (pr k j) ∧ s.2.2.1 j = nI (cn (fun m => decide (0 < m) && decide (pr k m = j)) i) ∧ s.2.2.2.1 j = nI (dp H k (k j) - 1) ∧
    s.2.2.2.2.1 j = (if hm W (k j) then 1 else 0) ∧ s.2.2.2.2.2.1 j = (if hm W (k j) then W (k j) else 0)) ∧ ∀ r, r < cn (fun j => hm W (k j)) i → s.2.2.2.2.2.2 r = nI (plc H k (n r))
theorem surv1 (hK : Kc ks ws H k W) (h : Hs H k C) (hn : Ns N n W) (hC : ∀ x, ¬ W x = -1 → C x) (pa ca ra ni wi ho : Nat → Int32) :
    ∃ t : Int32 × Int32 × (Nat → Int32) × (Nat → Int32) × (Nat → Int32) × (Nat → Int32) × (Nat → Int32) × (Nat → Int32), S1 k H W n H (t.1, t.2.2) ∧ mX5_survey_L4 (nI H) ks ws FU 0 0 pa ca ra ni wi ho = some t := by
  have hH := h.le
  have hN := hn.2.2
  refine lpI (fun m i (s : Int32 × (Nat → Int32) × (Nat → Int32) × (Nat → Int32) × (Nat → Int32) × (Nat → Int32) × (Nat → Int32)) => mX5_survey_L4 (nI H) ks ws m s.1 (nI i) s.2.1 s.2.2.1 s.2.2.2.1 s.2.2.2.2.1 s.2.2.2.2.2.1 s.2.2.2.2.2.2) H (S1 k H W n) (fun t => S1 k H W n H (t.1, t.2.2)) ?_ ?_ H FU 0 (0, pa, ca, ra, ni, wi, ho) (by omega) (by unfold FU; omega) ?_
  · intro m i s hi hI
    obtain ⟨i1, i2, i3⟩ := hI
    have hpl := pr_le k i
    have hcn := cn_le (fun j => hm W (k j)) i
    have hpi : mX5_findParent ks s.2.1 (nI i) = some (nI (pr k i)) := fpar_c hK h s.2.1 hi (fun j hj => (i2 j hj).1)
    let pa' := upd s.2.1 i (nI (pr k i))
    let ca' := if i = 0 then upd s.2.2.1 i 0 else upd (upd s.2.2.1 i 0) (pr k i) (upd s.2.2.1 i 0 (pr k i) + 1)
    let ra' := upd s.2.2.2.1 i (nI (dp H k (k i) - 1))
    let ni' := upd s.2.2.2.2.1 i (if hm W (k i) then 1 else 0)
    let wi' := upd s.2.2.2.2.2.1 i (if hm W (k i) then W (k i) else 0)
    let ho' := if hm W (k i) then upd s.2.2.2.2.2.2 (cn (fun j => hm W (k j)) i) (nI i) else s.2.2.2.2.2.2
    have hsh : mX5_surveyHouse ws pa' s.2.2.1 s.2.2.2.1 s.2.2.2.2.1 s.2.2.2.2.2.1 (nI i) = some (ca', ra', ni', wi') := by
      unfold mX5_surveyHouse
      have e0 : mX3_at 193 pa' (nI i) = nI (pr k i) := by
        rw [at_nI pa' (by omega) (by omega)]
        exact upd_at _ _ _
      rw [e0, put_nI _ _ (show i < 193 by omega) (by omega), Option.bind_some, isHome_c hK h hi, hK.wgt h hi]
      have e1 : (if nI i = 0 then (0 : Int32) else mX3_at 193 s.2.2.2.1 (nI (pr k i)) + 1) = nI (dp H k (k i) - 1) := by
        rcases Nat.eq_zero_or_pos i with h0 | h0
        · subst h0
          rw [if_pos nI_0, dp_0 h]
          rfl
        · have hpl2 := pr_lt k h0
          have hdp := dp_pos h (h.v (show pr k i < H by omega))
          rw [if_neg (nI_ne0 h0 (by omega)), at_nI _ (by omega) (by omega), (i2 _ hpl2).2.2.1, nI_1, dp_s h hi h0]
          congr 1
          omega
      rw [e1, put_nI _ _ (show i < 193 by omega) (by omega), Option.bind_some, put_nI _ _ (show i < 193 by omega) (by omega), Option.bind_some, put_nI _ _ (show i < 193 by omega) (by omega), Option.bind_some]
      have e2 : (if (if hm W (k i) = true then (1 : Int32) else 0) = 0 then (0 : Int32) else 1) = (if hm W (k i) then 1 else 0) := by cases hm W (k i) <;> decide
      have e3 : (if (if hm W (k i) = true then (1 : Int32) else 0) = 0 then (0 : Int32) else W (k i)) = (if hm W (k i) then W (k i) else 0) := by cases hm W (k i) <;> rfl
      rw [e2, e3]
      rcases Nat.eq_zero_or_pos i with h0 | h0
      · have e4 : ca' = upd s.2.2.1 i 0 := if_pos h0
        rw [if_pos (show nI i ≤ 0 from nI_le (b := 0) (by omega) (by omega)), e4]
      · have e4 : ca' = upd (upd s.2.2.1 i 0) (pr k i) (upd s.2.2.1 i 0 (pr k i) + 1) := if_neg (by omega)
        rw [if_neg (nI_nle h0 (by omega)), inc_nI _ _ (by omega) (by omega), Option.bind_some, e4]
    refine ⟨(nI (cn (fun j => hm W (k j)) (i + 1)), pa', ca', ra', ni', wi', ho'), ⟨rfl, fun j hj => ?_, fun r hr => ?_⟩, ?_⟩
    · have e0 : pr k i = i → i = 0 := fun e => by
        rcases Nat.eq_zero_or_pos i with h0 | h0
        · exact h0
        · have := pr_lt k h0
          omega
      rcases Nat.lt_or_ge j i with h1 | h1
      · obtain ⟨j1, j2, j3, j4, j5⟩ := i2 j h1
        refine ⟨(upd_of (by omega)).trans j1, ?_, (upd_of (by omega)).trans j3, (upd_of (by omega)).trans j4, (upd_of (by omega)).trans j5⟩
        show (if i = 0 then upd s.2.2.1 i 0 else upd (upd s.2.2.1 i 0) (pr k i) (upd s.2.2.1 i 0 (pr k i) + 1)) j = _
        rw [if_neg (show ¬ i = 0 by omega), cn_s]
        by_cases h2 : j = pr k i
        · have e5 : (decide (0 < i) && decide (pr k i = j)) = true := by
            rw [decide_eq_true (show 0 < i by omega), decide_eq_true h2.symm]
            rfl
          rw [if_pos e5, ← h2, upd_at, upd_of (show j ≠ i by omega), j2, nI_1]
        · rw [upd_of h2, upd_of (show j ≠ i by omega), j2, decide_eq_false (show ¬ pr k i = j from fun e => h2 e.symm), Bool.and_false]
          rfl
      · have : j = i := by omega
        subst this
        refine ⟨upd_at _ _ _, ?_, upd_at _ _ _, upd_at _ _ _, upd_at _ _ _⟩
        rw [cn_false (p := fun m => decide (0 < m) && decide (pr k m = j)) (n := j + 1) (fun q hq => by
          have : (decide (0 < q) && decide (pr k q = j)) = true ↔ (0 < q ∧ pr k q = j) := by rw [Bool.and_eq_true, decide_eq_true_iff, decide_eq_true_iff]
          rw [← Bool.not_eq_true, this]
          intro h5
          have := pr_lt k h5.1
          omega)]
        show (if j = 0 then upd s.2.2.1 j 0 else upd (upd s.2.2.1 j 0) (pr k j) (upd s.2.2.1 j 0 (pr k j) + 1)) j = _
        rcases Nat.eq_zero_or_pos j with h0 | h0
        · rw [if_pos h0, upd_at]; rfl
        · have := pr_lt k h0
          rw [if_neg (by omega), upd_of (show j ≠ pr k j by omega), upd_at]; rfl
    · show (if hm W (k i) then upd s.2.2.2.2.2.2 (cn (fun j => hm W (k j)) i) (nI i) else s.2.2.2.2.2.2) r = _
      rw [cn_s] at hr
      by_cases hh : hm W (k i) = true
      · rw [if_pos hh] at hr ⊢
        obtain ⟨hx1, hx2⟩ := hc_n h hn hC hi hh
        by_cases h2 : r = cn (fun j => hm W (k j)) i
        · rw [h2, upd_at, hx2, h.ixi hi]
        · rw [upd_of h2]
          exact i3 r (by omega)
      · rw [if_neg hh] at hr ⊢
        exact i3 r hr
    · show mX5_survey_L4 (nI H) ks ws (m + 1) s.1 (nI i) s.2.1 s.2.2.1 s.2.2.2.1 s.2.2.2.2.1 s.2.2.2.2.2.1 s.2.2.2.2.2.2 = mX5_survey_L4 (nI H) ks ws m (nI (cn (fun j => hm W (k j)) (i + 1))) (nI (i + 1)) pa' ca' ra' ni' wi' ho'
      rw [mX5_survey_L4, if_neg (nI_ge hi (by omega)), hpi, Option.bind_some, put_nI _ _ (show i < 193 by omega) (by omega), Option.bind_some, hsh]
      simp only [Option.bind_some]
      rw [isHome_c hK h hi, i1, cn_s]
      by_cases hh : hm W (k i) = true
      · have hx1 := (hc_n h hn hC hi hh).1
        have e4 : ho' = upd s.2.2.2.2.2.2 (cn (fun j => hm W (k j)) i) (nI i) := if_pos hh
        rw [if_neg (by rw [ite01, hh]; decide), put_nI _ _ (show cn (fun j => hm W (k j)) i < 24 by omega) (by omega), Option.bind_some, nI_1, nI_1, e4, if_pos hh]
      · have e4 : ho' = s.2.2.2.2.2.2 := if_neg hh
        rw [if_pos ((ite01 _).mpr (by rw [← Bool.not_eq_true]; exact hh)), nI_1, e4, if_neg hh]
        rfl
  · intro m s hI
    refine ⟨(s.1, nI H, s.2), hI, ?_⟩
    show mX5_survey_L4 (nI H) ks ws (m + 1) s.1 (nI H) s.2.1 s.2.2.1 s.2.2.2.1 s.2.2.2.2.1 s.2.2.2.2.2.1 s.2.2.2.2.2.2 = _
    rw [mX5_survey_L4, if_pos (nI_le (Nat.le_refl _) (by omega))]
  · exact ⟨rfl, fun j hj => absurd hj (Nat.not_lt_zero _), fun r hr => absurd hr (Nat.not_lt_zero _)⟩
/-- what stands at a place while the sums are handed up -/
def hup (H : Nat) (k : Nat → Nat) (own : Nat → Int32) (x j : Nat) : Int32 :=
  sm (fun m => if (if j ≤ x then decide (prS k (k m) x = j) else bgB (k j) (k m)) then own m else 0) H
theorem prS_self {k : Nat → Nat} {y x : Nat} (hx : 0 < x) : prS k y x = x ↔ bgB (k x) y = true := by
  obtain ⟨x, rfl⟩ : ∃ z, x = z + 1 := ⟨x - 1, by omega⟩
  have := prS_lt k y x
  constructor
  · intro h
    unfold prS at h
    split at h
    · rename_i h1; exact h1
    · omega
  · intro h
    unfold prS
    rw [if_pos h]
theorem prS_pred {k : Nat → Nat} {y x : Nat} (hx : 0 < x) (h : ¬ bgB (k x) y = true) : prS k y x = prS k y (x - 1) := by
  obtain ⟨x, rfl⟩ : ∃ z, x = z + 1 := ⟨x - 1, by omega⟩
  show (if bgB (k (x + 1)) y then x + 1 else prS k y x) = _
  rw [if_neg h]
  rfl
theorem hup_start (h : Hs H k C) (own : Nat → Int32) {j : Nat} (hj : j < H) : hup H k own (H - 1) j = own j := by
  unfold hup
  have e : ∀ m, m < H → prS k (k m) (H - 1) = m := by
    intro m hm
    have h1 := prS_max (k := k) (x := k m) (H - 1) m (by omega) (bg_rfl _)
    have h2 := prS_lt k (k m) (H - 1)
    have h3 := prS_bg (h.bg0 (h.v hm)) (H - 1)
    have h4 := h.ij (by omega) hm h3
    omega
  rw [sm_one hj (fun m hm hne => by rw [if_pos (show j ≤ H - 1 by omega), e m hm, if_neg (by simp [hne])]), if_pos (show j ≤ H - 1 by omega), e j hj, if_pos (by simp)]
theorem hup_step (h : Hs H k C) (own : Nat → Int32) {x : Nat} (hx : x + 1 < H) {j : Nat} (hj : j < H) :
    hup H k own x j = if j = pr k (x + 1) then hup H k own (x + 1) j + hup H k own (x + 1) (x + 1) else hup H k own (x + 1) j := by
  have hp := pr_lt k (show 0 < x + 1 by omega)
  have hx1 : hup H k own (x + 1) (x + 1) = sm (fun m => if bgB (k (x + 1)) (k m) then own m else 0) H := by
    unfold hup
    refine sm_congr (fun m hm => ?_)
    rw [if_pos (Nat.le_refl _)]
    by_cases e : bgB (k (x + 1)) (k m) = true
    · rw [if_pos e, if_pos (decide_eq_true ((prS_self (by omega)).mpr e))]
    · rw [if_neg e, if_neg]
      rw [decide_eq_true_iff, prS_self (by omega)]
      exact e
  -- whoever is below x + 1 has its parent as the highest up to x
  have hpx : ∀ m, m < H → bgB (k (x + 1)) (k m) = true → prS k (k m) x = pr k (x + 1) := by
    intro m hm hb
    rw [bgB_iff] at hb
    have v1 := h.v hx
    have vm := h.v hm
    have h1 : bgN (k (pr k (x + 1))) (k m) := bg_trans (h.v (by omega)) v1 vm (h.prb hx) hb
    have h2 := prS_max (k := k) (x := k m) x _ (show pr k (x + 1) ≤ x by omega) h1
    have h3 := prS_lt k (k m) x
    have h4 := prS_bg (h.bg0 vm) x
    have h5 : bgN (k (prS k (k m) x)) (k (x + 1)) := bg_chain (h.v (by omega)) v1 vm h4 hb ((h.en.le (by omega) hx).mpr (by omega))
    have h6 := h.prm hx (show prS k (k m) x < x + 1 by omega) h5
    omega
  rcases Nat.lt_or_ge (x + 1) j with h1 | h1
  · rw [if_neg (by omega)]
    unfold hup
    refine sm_congr (fun m hm => ?_)
    rw [if_neg (show ¬ j ≤ x by omega), if_neg (show ¬ j ≤ x + 1 by omega)]
  · rcases Nat.lt_or_ge x j with h2 | h2
    · have : j = x + 1 := by omega
      subst this
      rw [if_neg (by omega), hx1]
      unfold hup
      refine sm_congr (fun m hm => ?_)
      rw [if_neg (show ¬ x + 1 ≤ x by omega)]
    · have e : ∀ m, m < H → (if (if j ≤ x then decide (prS k (k m) x = j) else bgB (k j) (k m)) = true then own m else 0) =
          (if (if j ≤ x + 1 then decide (prS k (k m) (x + 1) = j) else bgB (k j) (k m)) = true then own m else 0) + (if (decide (j = pr k (x + 1)) && bgB (k (x + 1)) (k m)) = true then own m else 0) := by
        intro m hm
        rw [if_pos h2, if_pos (show j ≤ x + 1 by omega)]
        by_cases hb : bgB (k (x + 1)) (k m) = true
        · rw [hpx m hm hb, (prS_self (by omega)).mpr hb, decide_eq_false (show ¬ x + 1 = j by omega), hb, Bool.and_true]
          by_cases h3 : j = pr k (x + 1)
          · rw [decide_eq_true h3, decide_eq_true h3.symm, if_pos rfl, if_neg (by decide), Int32.zero_add]
          · rw [decide_eq_false h3, decide_eq_false (fun e => h3 e.symm), if_neg (by decide)]
            exact (Int32.add_zero _).symm
        · rw [prS_pred (by omega) hb, Nat.add_sub_cancel, (Bool.not_eq_true _).mp hb, Bool.and_false]
          exact (Int32.add_zero _).symm
      unfold hup at hx1 ⊢
      rw [sm_plus e]
      by_cases h3 : j = pr k (x + 1)
      · rw [if_pos h3, hx1]
        congr 1
        refine sm_congr (fun m hm => ?_)
        rw [decide_eq_true h3, Bool.true_and]
      · rw [if_neg h3, sm_zero (f := fun m => if (decide (j = pr k (x + 1)) && bgB (k (x + 1)) (k m)) = true then own m else 0) (fun m hm => by rw [decide_eq_false h3, Bool.false_and]; rfl), Int32.add_zero]
theorem hup_end (h : Hs H k C) (own : Nat → Int32) {j : Nat} (hj : j < H) : hup H k own 0 j = sm (fun m => if bgB (k j) (k m) then own m else 0) H := by
  unfold hup
  refine sm_congr (fun m hm => ?_)
  rcases Nat.eq_zero_or_pos j with h0 | h0
  · subst h0
    rw [if_pos (Nat.le_refl _), if_pos (by simp [prS]), if_pos (bgB_iff.mpr (h.bg0 (h.v hm)))]
  · rw [if_neg (show ¬ j ≤ 0 by omega)]
theorem surv2 (h : Hs H k C) (pa ni wi : Nat → Int32) (own own2 : Nat → Int32) (hp : ∀ j, j < H → pa j = nI (pr k j)) (h1 : ∀ j, j < H → ni j = own j) (h2 : ∀ j, j < H → wi j = own2 j) :
    ∃ t : Int32 × (Nat → Int32) × (Nat → Int32), (∀ j, j < H → t.2.1 j = sm (fun m => if bgB (k j) (k m) then own m else 0) H ∧ t.2.2 j = sm (fun m => if bgB (k j) (k m) then own2 m else 0) H) ∧ mX5_survey_L72 pa FU (nI H - 1) ni wi = some t := by
  have hH := h.le
  have hpos := h.pos
  obtain ⟨t, ht, e⟩ := lpD (fun m x (s : (Nat → Int32) × (Nat → Int32)) => mX5_survey_L72 pa m (nI x) s.1 s.2) 0 (fun x s => x < H ∧ ∀ j, j < H → s.1 j = hup H k own x j ∧ s.2 j = hup H k own2 x j) (fun t => ∀ j, j < H → t.2.1 j = hup H k own 0 j ∧ t.2.2 j = hup H k own2 0 j)
    (fun m x s _ hI => by
      obtain ⟨hx, hI⟩ := hI
      have hpl := pr_lt k (show 0 < x + 1 by omega)
      refine ⟨(upd s.1 (pr k (x + 1)) (s.1 (pr k (x + 1)) + s.1 (x + 1)), upd s.2 (pr k (x + 1)) (s.2 (pr k (x + 1)) + s.2 (x + 1))), ⟨by omega, fun j hj => ?_⟩, ?_⟩
      · rw [hup_step h own hx hj, hup_step h own2 hx hj]
        dsimp only
        by_cases h3 : j = pr k (x + 1)
        · rw [if_pos h3, if_pos h3, ← h3, upd_at, upd_at, (hI j hj).1, (hI j hj).2, (hI (x + 1) hx).1, (hI (x + 1) hx).2]
          exact ⟨rfl, rfl⟩
        · rw [if_neg h3, if_neg h3, upd_of h3, upd_of h3]
          exact hI j hj
      · show mX5_survey_L72 pa (m + 1) (nI (x + 1)) s.1 s.2 = mX5_survey_L72 pa m (nI x) _ _
        rw [mX5_survey_L72, if_neg (nI_nle (by omega) (by omega)), at_nI pa (by omega) (by omega), hp _ hx, at_nI _ (by omega) (by omega), at_nI _ (by omega) (by omega), inc_nI _ _ (by omega) (by omega), Option.bind_some, inc_nI _ _ (by omega) (by omega), Option.bind_some, q_m1])
    (fun m s hI => by
      refine ⟨(nI 0, s), hI.2, ?_⟩
      show mX5_survey_L72 pa (m + 1) (nI 0) s.1 s.2 = _
      rw [mX5_survey_L72, if_pos (show nI 0 ≤ 0 from nI_le (b := 0) (Nat.le_refl _) (by omega))])
    (H - 1) FU (H - 1) (ni, wi) (by omega) (by unfold FU; omega) ⟨by omega, fun j hj => by rw [hup_start h own hj, hup_start h own2 hj]; exact ⟨h1 j hj, h2 j hj⟩⟩
  rw [show nI H - 1 = nI (H - 1) by rw [← nI_pred (H - 1), show H - 1 + 1 = H by omega]]
  refine ⟨t, fun j hj => ?_, e⟩
  rw [← hup_end h own hj, ← hup_end h own2 hj]
  exact ht j hj
theorem survey_c (hK : Kc ks ws H k W) (h : Hs H k C) (hn : Ns N n W) (hC : ∀ x, ¬ W x = -1 → C x) (pa ca ra ni wi ho : Nat → Int32) :
    ∃ pa' ca' ra' ni' wi' ho' : Nat → Int32, mX5_survey (nI H) ks ws pa ca ra ni wi ho = some (pa', ca', ra', ni', wi', ho') ∧ Sv H k N n W pa' ca' ra' ni' wi' ho' := by
  obtain ⟨⟨x1, x2, pa', ca', ra', ni', wi', ho'⟩, hS, e⟩ := surv1 hK h hn hC pa ca ra ni wi ho
  obtain ⟨s1, s2, s3⟩ := hS
  obtain ⟨⟨x3, ni2, wi2⟩, hS2, e2⟩ := surv2 h pa' ni' wi' (fun j => if hm W (k j) then 1 else 0) (fun j => if hm W (k j) then W (k j) else 0) (fun j hj => (s2 j hj).1) (fun j hj => (s2 j hj).2.2.2.1) (fun j hj => (s2 j hj).2.2.2.2)
  refine ⟨pa', ca', ra', ni2, wi2, ho', ?_, fun i hi => ⟨(s2 i hi).1, (s2 i hi).2.1, (s2 i hi).2.2.1, ?_, ?_⟩, fun r hr => s3 r (by rw [hc_N h hn hC]; exact hr)⟩
  · unfold mX5_survey
    rw [e]
    simp only [Option.bind_some]
    rw [e2]
    rfl
  · show ni2 i = _
    rw [show ni2 i = _ from (hS2 i hi).1]
    unfold nbl
    rw [← sm_nI, ← hs_sm h hn hC (fun x => if bgB (k i) x then 1 else 0)]
    refine sm_congr (fun m hm' => ?_)
    cases hm W (k m) <;> cases bgB (k i) (k m) <;> rfl
  · show wi2 i = _
    rw [show wi2 i = _ from (hS2 i hi).2]
    unfold wbl
    rw [← hs_sm h hn hC (fun x => if bgB (k i) x then W x else 0)]
    refine sm_congr (fun m hm' => ?_)
    cases hm W (k m) <;> cases bgB (k i) (k m) <;> rfl
end Survey
