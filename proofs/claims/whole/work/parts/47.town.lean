/-! One step of the town on both sides. -/
/-- the class's town, surveyed, and the reference's state -/
def TS (hv L mv ev bu td : Int32) (ks ws pa ca ra ni wi ho : Nat → Int32) (f : Nat → Int32) : Prop :=
  ∃ (H : Nat) (k : Nat → Nat) (C : Nat → Prop) (N : Nat) (n : Nat → Nat) (W : Nat → Int32), Tn H k C N n W ∧ hv = nI H ∧ Kc ks ws H k W ∧ Sv H k N n W pa ca ra ni wi ho ∧ Rf f H k N n W ∧ L = f 0 ∧ mv = f 3 ∧ ev = f 4 ∧ bu = f 5 ∧ td = f 6
section Town
variable {hv L mv ev bu td : Int32} {ks ws pa ca ra ni wi ho f : Nat → Int32}
theorem TS.state (h : TS hv L mv ev bu td ks ws pa ca ra ni wi ho f) : SS hv L mv ev bu td ks ws f := by
  obtain ⟨H, k, C, N, n, W, h1, h2, h3, h4, h5, h6⟩ := h
  exact ⟨H, k, C, N, n, W, h1, h2, h3, h5, h6⟩
theorem SS.survey (h : SS hv L mv ev bu td ks ws f) (pa ca ra ni wi ho : Nat → Int32) : ∃ pa' ca' ra' ni' wi' ho', mX5_survey hv ks ws pa ca ra ni wi ho = some (pa', ca', ra', ni', wi', ho') ∧ TS hv L mv ev bu td ks ws pa' ca' ra' ni' wi' ho' f := by
  obtain ⟨H, k, C, N, n, W, h1, h2, h3, h5, h6⟩ := h
  subst h2
  obtain ⟨pa', ca', ra', ni', wi', ho', e1, e2⟩ := survey_c h3 h1.1 h1.2.1 h1.2.2.1 pa ca ra ni wi ho
  exact ⟨pa', ca', ra', ni', wi', ho', e1, H, k, C, N, n, W, h1, rfl, h3, e2, h5, h6⟩
theorem TS.take (h : TS hv L mv ev bu td ks ws pa ca ra ni wi ho f) {x : Nat} (hx : VN x) (h1 : 0 < lnN x) {w : Int32} (hw : ¬ w = -1) :
    (mX5_canTakeName hv ks ws ni (nI x) = some 0 ∧ ∃ v, mX8_findName f (nI x) = some v ∧ (¬ v = -1 ∨ (v = -1 ∧ f 1 = 24))) ∨
    (mX5_canTakeName hv ks ws ni (nI x) = some 1 ∧ mX8_findName f (nI x) = some (-1) ∧ ¬ f 1 = 24 ∧
      ∃ (r hv' ev' bu' : Int32) (ks' ws' pa' ca' ra' ni' wi' ho' f' : Nat → Int32), mX5_takeName hv ev bu ks ws pa ca ra ni wi ho (nI x) w = some (r, hv', ev', bu', ks', ws', pa', ca', ra', ni', wi', ho') ∧
        mX8_addName f (nI x) w = some (r, f') ∧ TS hv' L mv ev' bu' td ks' ws' pa' ca' ra' ni' wi' ho' f') := by
  obtain ⟨H, k, C, N, n, W, hT, rfl, hK, hS, hR, e0, e3, e4, e5, e6⟩ := h
  have hN := hT.2.1.2.2
  have en := cnames_c hS hT.1 hT.2.1
  unfold mX5_canTakeName
  rw [weightOf_c hK hT.1 hT.2.2.1 hx.l31, Option.bind_some, en]
  by_cases hW : W x = -1
  · rw [if_pos hW, findn_no hR hT.2.1 hx.l31 hW, hR.2.2.1]
    rcases Nat.lt_or_ge N 24 with hlt | hge
    · right
      rw [if_neg (fun e => by have := (q_gen 24 (by omega) (by omega)).mp e; omega)]
      refine ⟨rfl, rfl, fun e => by have := (q_eqn 24 (by omega) (by omega)).mp e; omega, ?_⟩
      obtain ⟨H', k', ks', ws', pa', ca', ra', ni', wi', ho', c1, c2, c3, c4, c5⟩ := ctake_c hT hK hx h1 hW hlt hw ev bu pa ca ra ni wi ho
      obtain ⟨H2, k2, f', r1, r2, r3, r4, r5, r6, r7, r8, r9⟩ := rtake_c hT hR hx h1 hW hlt hw
      obtain ⟨u1, u2⟩ := r2.uniq c3.1.en
      subst u1
      have hR' : Rf f' H2 k' (N + 1) (insN n (plc N n x) x) (fun y => if y = x then w else W y) := r3.congr u2 (fun _ _ => rfl)
      by_cases hc : C (ctN x (knl N n x (lnN x)))
      · exact ⟨_, _, ev, _, ks', ws', pa', ca', ra', ni', wi', ho', f', c1 hc, r1, _, k', _, _, _, _, c3, rfl, c4, c5, hR', by rw [r4]; exact e0, by rw [r5]; exact e3, by rw [r8 hc]; exact e4, by rw [r6, e5], by rw [r7]; exact e6⟩
      · exact ⟨_, _, ev + 1, _, ks', ws', pa', ca', ra', ni', wi', ho', f', c2 hc, r1, _, k', _, _, _, _, c3, rfl, c4, c5, hR', by rw [r4]; exact e0, by rw [r5]; exact e3, by rw [r9 hc, e4], by rw [r6, e5], by rw [r7]; exact e6⟩
    · left
      have : N = 24 := by omega
      rw [if_pos ((q_gen 24 (by omega) (by omega)).mpr hge)]
      exact ⟨rfl, -1, rfl, Or.inr ⟨rfl, by rw [this]; rfl⟩⟩
  · left
    obtain ⟨a1, a2, -⟩ := findn_yes hR hT.2.1 hW
    rw [if_neg hW]
    exact ⟨rfl, _, a1, Or.inl (q_neg (by omega))⟩
theorem TS.drop (h : TS hv L mv ev bu td ks ws pa ca ra ni wi ho f) {x : Nat} (hx : VN x) :
    (mX5_weightOf hv ks ws (nI x) = some (-1) ∧ mX8_findName f (nI x) = some (-1)) ∨
    (∃ v u, mX5_weightOf hv ks ws (nI x) = some v ∧ ¬ v = -1 ∧ mX8_findName f (nI x) = some u ∧ ¬ u = -1 ∧
      ∃ (r hv' td' : Int32) (ks' ws' pa' ca' ra' ni' wi' ho' f' : Nat → Int32), mX5_dropName hv td ks ws pa ca ra ni wi ho (nI x) = some (r, hv', td', ks', ws', pa', ca', ra', ni', wi', ho') ∧
        mX8_removeName f (nI x) = some (r, f') ∧ TS hv' L mv ev bu td' ks' ws' pa' ca' ra' ni' wi' ho' f') := by
  obtain ⟨H, k, C, N, n, W, hT, rfl, hK, hS, hR, e0, e3, e4, e5, e6⟩ := h
  have hN := hT.2.1.2.2
  rw [weightOf_c hK hT.1 hT.2.2.1 hx.l31]
  by_cases hW : W x = -1
  · left
    exact ⟨by rw [hW], findn_no hR hT.2.1 hx.l31 hW⟩
  · right
    obtain ⟨a1, a2, -⟩ := findn_yes hR hT.2.1 hW
    obtain ⟨H', k', C', ks', ws', pa', ca', ra', ni', wi', ho', f', c, r1, r2, r3, r4, r5, r6, r7, r8, r9, r10, r11⟩ := rem_c hT hK hS hR hW td
    exact ⟨_, _, rfl, hW, a1, q_neg (by omega), _, _, _, ks', ws', pa', ca', ra', ni', wi', ho', f', r1, r2, H', k', C', _, _, _, r3, rfl, r4, r5, r6, by rw [r7]; exact e0, by rw [r8]; exact e3, by rw [r9]; exact e4, by rw [r10]; exact e5, by rw [r11, e6]⟩
theorem TS.setw (h : TS hv L mv ev bu td ks ws pa ca ra ni wi ho f) {x : Nat} (hx : VN x) {w : Int32} (hw : ¬ w = -1) :
    (mX5_weightOf hv ks ws (nI x) = some (-1) ∧ mX8_findName f (nI x) = some (-1)) ∨
    (∃ v u, mX5_weightOf hv ks ws (nI x) = some v ∧ ¬ v = -1 ∧ mX8_findName f (nI x) = some u ∧ ¬ u = -1 ∧
      ∃ (ws' pa' ca' ra' ni' wi' ho' f' : Nat → Int32), mX5_changeWeight hv ks ws pa ca ra ni wi ho (nI x) w = some (v, ws', pa', ca', ra', ni', wi', ho') ∧
        rdA 255 f (31 + u) = some v ∧ wrA 255 f (31 + u) w = some f' ∧ TS hv L mv ev bu td ks ws' pa' ca' ra' ni' wi' ho' f') := by
  obtain ⟨H, k, C, N, n, W, hT, rfl, hK, hS, hR, e0, e3, e4, e5, e6⟩ := h
  have hN := hT.2.1.2.2
  have hp := plc_le N n x
  rw [weightOf_c hK hT.1 hT.2.2.1 hx.l31]
  by_cases hW : W x = -1
  · left
    exact ⟨by rw [hW], findn_no hR hT.2.1 hx.l31 hW⟩
  · right
    obtain ⟨ws', pa', ca', ra', ni', wi', ho', f', r1, r2, r3, r4, r5, r6, r7, r8, r9, r10⟩ := wset_c hT hK hR hW hw pa ca ra ni wi ho
    exact ⟨_, _, rfl, hW, r2, q_neg (by omega), ws', pa', ca', ra', ni', wi', ho', f', r1, r3, r4, H, k, C, N, n, _, r5, rfl, r6, r7, r8, by rw [r9]; exact e0, by rw [r10 3 (by omega)]; exact e3, by rw [r10 4 (by omega)]; exact e4, by rw [r10 5 (by omega)]; exact e5, by rw [r10 6 (by omega)]; exact e6⟩
theorem TS.move (h : TS hv L mv ev bu td ks ws pa ca ra ni wi ho f) {x : Nat} (hx : VN x) :
    (mX5_canMove hv L ks ws pa ca (nI x) = some 0 ∧ (mX8_findHouse f (nI x) = some (-1) ∨ ∃ i y, mX8_findHouse f (nI x) = some i ∧ ¬ i = -1 ∧ mX8_whyNoMove f i = some y ∧ ¬ y ≤ 0)) ∨
    (mX5_canMove hv L ks ws pa ca (nI x) = some 1 ∧ ∃ i, mX8_findHouse f (nI x) = some i ∧ ¬ i = -1 ∧ mX8_whyNoMove f i = some 0 ∧
      ∃ (r hv' mv' : Int32) (ks' ws' pa' ca' ra' ni' wi' ho' f' : Nat → Int32), mX5_move hv mv ks ws pa ca ra ni wi ho (nI x) = some (r, hv', mv', ks', ws', pa', ca', ra', ni', wi', ho') ∧
        mX8_moves f i = some (r, f') ∧ TS hv' L mv' ev bu td ks' ws' pa' ca' ra' ni' wi' ho' f') := by
  obtain ⟨H, k, C, N, n, W, hT, rfl, hK, hS, hR, e0, e3, e4, e5, e6⟩ := h
  have hH := hT.1.le
  unfold mX5_canMove
  by_cases hc : C x
  · obtain ⟨p1, p2⟩ := hT.1.ixe hc
    have ef := (findh_c hR hT.1 hx.l31).1 hc
    have ew := why_c hR hT p1
    rw [(index_c hK hT.1 hx.l31).1 hc, Option.bind_some, if_neg (q_neg (by omega)), creason_c hK hS hT p1, e0]
    by_cases hy : why (f 0) H k W (plc H k x) = 0
    · right
      rw [if_pos hy]
      obtain ⟨ks', ws', pa', ca', ra', ni', wi', ho', c1, c2, c3⟩ := cmove_c hT hK hS hc (f 0) hy mv
      obtain ⟨f', r1, r2, r3, r4, r5, r6, r7, r8⟩ := rmove_c hT hR p1 hy
      exact ⟨rfl, _, ef, q_neg (by omega), by rw [ew, hy], _, _, _, ks', ws', pa', ca', ra', ni', wi', ho', f', c1, r1, _, _, _, N, n, W, r2, rfl, c2, c3, r3, r4.symm, by rw [r5, e3], by rw [r6]; exact e4, by rw [r7]; exact e5, by rw [r8]; exact e6⟩
    · left
      rw [if_neg hy]
      exact ⟨rfl, Or.inr ⟨_, _, ef, q_neg (by omega), ew, fun h2 => hy ((why_le _ _ _ _ _).mp h2)⟩⟩
  · left
    rw [(index_c hK hT.1 hx.l31).2 hc, Option.bind_some, if_pos rfl]
    exact ⟨rfl, Or.inl ((findh_c hR hT.1 hx.l31).2 hc)⟩
theorem TS.evict (h : TS hv L mv ev bu td ks ws pa ca ra ni wi ho f) {x : Nat} (hx : VN x) :
    (mX5_liesWithinLabel hv ks (nI x) = some 0 ∧ (mX8_isInTown f (nI x) = some 0 ∨ ∃ i, mX8_isInTown f (nI x) = some 1 ∧ mX8_findHouse f (nI x) = some i ∧ ¬ i = -1)) ∨
    (mX5_liesWithinLabel hv ks (nI x) = some 1 ∧ mX8_isInTown f (nI x) = some 1 ∧ mX8_findHouse f (nI x) = some (-1) ∧
      ∃ (r hv' ev' : Int32) (ks' ws' pa' ca' ra' ni' wi' ho' f' : Nat → Int32), mX5_part hv ev ks ws pa ca ra ni wi ho (nI x) = some (r, hv', ev', ks', ws', pa', ca', ra', ni', wi', ho') ∧
        mX8_evicts f (nI x) = some (r, f') ∧ TS hv' L mv ev' bu td ks' ws' pa' ca' ra' ni' wi' ho' f') := by
  obtain ⟨H, k, C, N, n, W, hT, rfl, hK, hS, hR, e0, e3, e4, e5, e6⟩ := h
  have hH := hT.1.le
  have ht := isin_c hR hT.2.1 hx
  have htb := hT.tb hx
  unfold mX5_liesWithinLabel
  by_cases hc : C x
  · left
    obtain ⟨p1, p2⟩ := hT.1.ixe hc
    rw [(index_c hK hT.1 hx.l31).1 hc, Option.bind_some, if_neg (q_neg (by omega))]
    refine ⟨rfl, Or.inr ⟨_, ?_, (findh_c hR hT.1 hx.l31).1 hc, q_neg (by omega)⟩⟩
    rw [ht, if_pos (htb.mpr ⟨_, p1, by rw [p2]; exact bg_rfl _⟩)]
  · rw [(index_c hK hT.1 hx.l31).2 hc, Option.bind_some, if_pos rfl]
    by_cases hj : ∃ j, j < H ∧ bgN x (k j)
    · right
      have hw := hT.1.fw.mp hj
      rw [(first_c hK hT.1 hx).1 hj, Option.bind_some, if_neg (q_neg (by omega)), ht, if_pos (htb.mpr hj)]
      obtain ⟨j, j1, j2⟩ := hj
      obtain ⟨ks', ws', pa', ca', ra', ni', wi', ho', c1, c2, c3⟩ := cevict_c hT hK hx hc (hT.1.c j1) j2 ev pa ca ra ni wi ho
      obtain ⟨f', r1, r2, r3, r4, r5, r6, r7⟩ := revict_c hT hR hx hc (hT.1.c j1) j2
      exact ⟨rfl, rfl, (findh_c hR hT.1 hx.l31).2 hc, _, _, _, ks', ws', pa', ca', ra', ni', wi', ho', f', c1, r1, _, _, _, N, n, W, hT.evict hx hc (hT.1.c j1) j2, rfl, c2, c3, r2, by rw [r3]; exact e0, by rw [r4]; exact e3, by rw [r5, e4], by rw [r6]; exact e5, by rw [r7]; exact e6⟩
    · left
      rw [(first_c hK hT.1 hx).2 hj, Option.bind_some, if_pos rfl, ht, if_neg (fun h2 => hj (htb.mp h2))]
      exact ⟨rfl, Or.inl rfl⟩
theorem TS.comp (h : TS hv L mv ev bu td ks ws pa ca ra ni wi ho f) (lv : Nat → Int32) :
    ∃ (r hv' mv' : Int32) (ks' ws' pa' ca' ra' ni' wi' ho' lv' f' : Nat → Int32), mX5_moveAll hv L mv ks ws pa ca ra ni wi ho lv = some (r, hv', mv', ks', ws', pa', ca', ra', ni', wi', ho', lv') ∧
      mX8_compressed f = some (r, f') ∧ TS hv' L mv' ev bu td ks' ws' pa' ca' ra' ni' wi' ho' f' := by
  obtain ⟨H, k, C, N, n, W, hT, rfl, hK, hS, hR, e0, e3, e4, e5, e6⟩ := h
  subst e0
  obtain ⟨H', k', C', ks', ws', pa', ca', ra', ni', wi', ho', lv', f', c, r1, r2, r3, r4, r5, r6, r7, r8, r9, r10, r11⟩ := comp_c hT hK hS hR mv lv
  exact ⟨_, _, _, ks', ws', pa', ca', ra', ni', wi', ho', lv', f', r1, r2, H', k', C', N, n, W, r3, rfl, r4, r5, r6, r7.symm, by rw [r8, e3], by rw [r9]; exact e4, by rw [r10]; exact e5, by rw [r11]; exact e6⟩
theorem TS.exp (h : TS hv L mv ev bu td ks ws pa ca ra ni wi ho f) :
    ∃ (r hv' ev' : Int32) (ks' ws' pa' ca' ra' ni' wi' ho' f' : Nat → Int32), mX5_partAll hv ev ks ws pa ca ra ni wi ho = some (r, hv', ev', ks', ws', pa', ca', ra', ni', wi', ho') ∧
      mX8_expanded f = some (r, f') ∧ TS hv' L mv ev' bu td ks' ws' pa' ca' ra' ni' wi' ho' f' := by
  obtain ⟨H, k, C, N, n, W, hT, rfl, hK, hS, hR, e0, e3, e4, e5, e6⟩ := h
  obtain ⟨H', k', f', r1, r2, r3, r4, r5, r6, r7, r8, r9⟩ := rexp_c hT hR
  obtain ⟨ks', ws', pa', ca', ra', ni', wi', ho', c1, c2, c3, c4⟩ := cexp_c hT hK hS ev r2
  exact ⟨_, _, _, ks', ws', pa', ca', ra', ni', wi', ho', f', c1, r1, H', k', _, N, n, W, r2, rfl, c2, c3, r3, by rw [r5]; exact e0, by rw [r6]; exact e3, by rw [r7, e4], by rw [r8]; exact e5, by rw [r9]; exact e6⟩
theorem TS.lim (h : TS hv L mv ev bu td ks ws pa ca ra ni wi ho f) (v : Int32) : TS hv v mv ev bu td ks ws pa ca ra ni wi ho (upd f 0 v) := by
  obtain ⟨H, k, C, N, n, W, hT, h2, hK, hS, hR, e0, e3, e4, e5, e6⟩ := h
  exact ⟨H, k, C, N, n, W, hT, h2, hK, hS, hR.upd_of hT.2.1.2.2 (by omega) v, (upd_at _ _ _).symm, e3, e4, e5, e6⟩
end Town
