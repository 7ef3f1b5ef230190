/-! Texts of commands on both sides. -/
section Carry
variable {hv L mv ev bu td : Int32} {ks ws pa ca ra ni wi ho f : Nat → Int32}
theorem isp_c {a l s : Nat} (hs : s ≤ l) (h1 : l ≤ 8) (ha : a < 8 ^ l) : mX8_isPrefix (nI a) (nI l) (nI s) = 1 := by
  have hp : 8 ^ l ≤ 8 ^ 8 := Nat.pow_le_pow_right (by decide) h1
  unfold mX8_isPrefix
  have e1 : mX8_within (nI l) (nI s) 8 = 1 := by
    unfold mX8_within
    rw [if_neg (nI_nlt hs (by omega)), if_neg (fun e => by have := (q_gtn 8 (by omega) (by omega)).mp e; omega)]
  have e2 : mX8_within (nI a) 0 ((1 <<< ((3 * nI l) &&& 31)) - 1) = 1 := by
    unfold mX8_within
    rw [m8_c h1, if_neg (nI_pos (by omega)), if_neg (nI_nlt (by omega) (by omega))]
  rw [e1, e2]
  rfl
theorem VN_cd {a l : Nat} (h1 : l ≤ 8) (ha : a < 8 ^ l) : VN (cdN a l) ∧ lnN (cdN a l) = l := ⟨⟨a, l, h1, ha, rfl⟩, cd_len h1⟩
theorem lim_c (v : Int32) : mX8_isLimit v = mX7_isLimit v := by
  unfold mX8_isLimit mX8_within mX7_isLimit
  rfl
theorem lim01 (v : Int32) : mX7_isLimit v = 0 ∨ mX7_isLimit v = 1 := by
  unfold mX7_isLimit
  split
  · exact Or.inl rfl
  · split
    · exact Or.inl rfl
    · exact Or.inr rfl
theorem carry (h : TS hv L mv ev bu td ks ws pa ca ra ni wi ho f) {K le LEN nu : Int32} (hc : Cmd K le LEN nu) (lv : Nat → Int32) {rl rn n0 : Int32} (hr : mX0_hasName K = 1 → rl = le ∧ rn = LEN) (hn : K = 43 ∨ K = 61 → n0 = nu) :
    (mX7_canCarryOut hv L ks ws pa ca ni K le LEN nu = some 0 ∧ mX8_carriesOut K rl rn n0 f = some (0, f)) ∨
    (mX7_canCarryOut hv L ks ws pa ca ni K le LEN nu = some 1 ∧ ∃ (hv' L' mv' ev' bu' td' : Int32) (ks' ws' pa' ca' ra' ni' wi' ho' lv' f' : Nat → Int32), mX7_carryOut hv L mv ev bu td ks ws pa ca ra ni wi ho lv K le LEN nu = some (hv', L', mv', ev', bu', td', ks', ws', pa', ca', ra', ni', wi', ho', lv') ∧ mX8_carriesOut K rl rn n0 f = some (1, f') ∧ TS hv' L' mv' ev' bu' td' ks' ws' pa' ca' ra' ni' wi' ho' f') := by
  rcases hc with ⟨hK, ⟨a, l, l1, l8, ha, hle, hLEN⟩, w, hw, hnu⟩ | ⟨hK, a, l, l1, l8, ha, hle, hLEN⟩ | hK | hK
  · subst hK hle hLEN hnu
    obtain ⟨rfl, rfl⟩ := hr rfl
    have hn' := hn (Or.inl rfl)
    subst hn'
    obtain ⟨v, vl⟩ := VN_cd l8 ha
    have hwi : mX8_within (nI w) 0 99 = 1 := by rw [within_c (c := w) (lo := 0) (hi := 99) (by omega) (by omega) (by omega), if_pos ⟨by omega, hw⟩]
    have ek : mX0_key (nI a) (nI l) = nI (cdN a l) := of_c l8
    have hw1 : ¬ nI w = -1 := q_neg (by omega)
    have e1 : mX7_canCarryOut hv L ks ws pa ca ni 43 (nI a) (nI l) (nI w) = mX5_canTakeName hv ks ws ni (nI (cdN a l)) := by
      unfold mX7_canCarryOut mX0_kind
      rw [if_pos rfl, ek]
      cases mX5_canTakeName hv ks ws ni (nI (cdN a l)) <;> rfl
    have e2 : mX8_whyNotAdded f (nI a) (nI l) (nI w) = (mX8_findName f (nI (cdN a l))).bind fun r27 => some (if r27 = (-1) then (if (f 1) = 24 then (2 : Int32) else 0) else 2) := by
      unfold mX8_whyNotAdded
      rw [show mX8_isPrefix (nI a) (nI l) 1 = 1 from isp_c (s := 1) l1 l8 ha, hwi, if_neg (by decide), if_neg (by decide), code_c l8]
    rw [e1]
    rcases h.take v (by omega) hw1 with ⟨c1, u, c2, c3⟩ | ⟨c1, c2, c3, r, hv', ev', bu', ks', ws', pa', ca', ra', ni', wi', ho', f', c4, c5, c6⟩
    · left
      refine ⟨c1, ?_⟩
      unfold mX8_carriesOut
      rw [if_pos rfl, e2, c2]
      simp only [Option.bind_some]
      have : (if u = -1 then (if f 1 = 24 then (2 : Int32) else 0) else 2) = 2 := by
        rcases c3 with c3 | ⟨c3, c4⟩
        · rw [if_neg c3]
        · rw [if_pos c3, if_pos c4]
      rw [this]
      rfl
    · right
      refine ⟨c1, hv', L, mv, ev', bu', td, ks', ws', pa', ca', ra', ni', wi', ho', lv, f', ?_, ?_, c6⟩
      · unfold mX7_carryOut mX0_kind mX0_number
        rw [if_pos rfl, ek, c4]
        rfl
      · unfold mX8_carriesOut
        rw [if_pos rfl, e2, c2, Option.bind_some, Option.bind_some, if_pos rfl, if_neg c3, if_pos rfl, code_c l8, c5]
        rfl
  · obtain ⟨v, vl⟩ := VN_cd l8 ha
    have ek : mX0_key (nI a) (nI l) = nI (cdN a l) := of_c l8
    subst hle hLEN
    have hN : mX0_hasName K = 1 := by rcases hK with hK | hK | hK <;> subst hK <;> rfl
    obtain ⟨rfl, rfl⟩ := hr hN
    rcases hK with hK | hK | hK
    · subst hK
      have e2 : mX8_whyNotThere f (nI a) (nI l) = (mX8_findName f (nI (cdN a l))).bind fun r19 => some (if r19 = (-1) then (2 : Int32) else 0) := by
        unfold mX8_whyNotThere
        rw [show mX8_isPrefix (nI a) (nI l) 1 = 1 from isp_c (s := 1) l1 l8 ha, if_neg (by decide), code_c l8]
      unfold mX7_canCarryOut mX0_kind
      rw [if_neg (by decide), if_pos rfl, ek]
      rcases h.drop v with ⟨c1, c2⟩ | ⟨x, y, c1, c2, c3, c4, r, hv', td', ks', ws', pa', ca', ra', ni', wi', ho', f', c5, c6, c7⟩
      · left
        rw [c1]
        refine ⟨rfl, ?_⟩
        unfold mX8_carriesOut
        rw [if_neg (by decide), if_pos rfl, e2, c2]
        rfl
      · right
        rw [c1]
        refine ⟨by rw [Option.bind_some, if_neg c2], hv', L, mv, ev, bu, td', ks', ws', pa', ca', ra', ni', wi', ho', lv, f', ?_, ?_, c7⟩
        · unfold mX7_carryOut mX0_kind
          rw [if_neg (by decide), if_pos rfl, ek, c5]
          rfl
        · unfold mX8_carriesOut
          rw [if_neg (by decide), if_pos rfl, e2, c3]
          simp only [Option.bind_some]
          rw [if_neg c4, if_pos rfl, code_c l8, c6]
          rfl
    · subst hK
      have e2 : mX8_whyNotMoved f (nI a) (nI l) = (mX8_findHouse f (nI (cdN a l))).bind fun r17 => (if r17 = (-1) then some 2 else ((mX8_whyNoMove f r17).bind fun r28 => some (if r28 ≤ 0 then (0 : Int32) else 2))) := by
        unfold mX8_whyNotMoved
        rw [show mX8_isPrefix (nI a) (nI l) 0 = 1 from isp_c (s := 0) (by omega) l8 ha, if_neg (by decide), code_c l8]
      unfold mX7_canCarryOut mX0_kind
      rw [if_neg (by decide), if_neg (by decide), if_pos rfl, ek]
      rcases h.move v with ⟨c1, c2⟩ | ⟨c1, i, c2, c3, c4, r, hv', mv', ks', ws', pa', ca', ra', ni', wi', ho', f', c5, c6, c7⟩
      · left
        rw [c1]
        refine ⟨rfl, ?_⟩
        unfold mX8_carriesOut
        rw [if_neg (by decide), if_neg (by decide), if_pos rfl, e2]
        rcases c2 with c2 | ⟨i, y, c2, c3, c4, c5⟩
        · rw [c2]
          rfl
        · rw [c2, Option.bind_some, if_neg c3, c4, Option.bind_some, if_neg c5]
          rfl
      · right
        rw [c1]
        refine ⟨rfl, hv', L, mv', ev, bu, td, ks', ws', pa', ca', ra', ni', wi', ho', lv, f', ?_, ?_, c7⟩
        · unfold mX7_carryOut mX0_kind
          rw [if_neg (by decide), if_neg (by decide), if_pos rfl, ek, c5]
          rfl
        · unfold mX8_carriesOut
          rw [if_neg (by decide), if_neg (by decide), if_pos rfl, e2, c2, Option.bind_some, if_neg c3, c4]
          simp only [Option.bind_some]
          rw [if_pos (show (if (0 : Int32) ≤ 0 then (0 : Int32) else 2) = 0 by decide), code_c l8, c2, Option.bind_some, c6]
          rfl
    · subst hK
      have e2 : mX8_whyNotEvicted f (nI a) (nI l) = (mX8_isInTown f (nI (cdN a l))).bind fun r19 => (if r19 = 0 then some 2 else ((mX8_findHouse f (nI (cdN a l))).bind fun r27 => some (if r27 = (-1) then (0 : Int32) else 2))) := by
        unfold mX8_whyNotEvicted
        rw [show mX8_isPrefix (nI a) (nI l) 0 = 1 from isp_c (s := 0) (by omega) l8 ha, if_neg (by decide), code_c l8]
      unfold mX7_canCarryOut mX0_kind
      rw [if_neg (by decide), if_neg (by decide), if_neg (by decide), if_neg (by decide), if_pos rfl, ek]
      rcases h.evict v with ⟨c1, c2⟩ | ⟨c1, c2, c3, r, hv', ev', ks', ws', pa', ca', ra', ni', wi', ho', f', c5, c6, c7⟩
      · left
        rw [c1]
        refine ⟨rfl, ?_⟩
        unfold mX8_carriesOut
        rw [if_neg (by decide), if_neg (by decide), if_neg (by decide), if_neg (by decide), if_pos rfl, e2]
        rcases c2 with c2 | ⟨i, c2, c3, c4⟩
        · rw [c2]
          rfl
        · rw [c2, Option.bind_some, if_neg (by decide), c3, Option.bind_some, if_neg c4]
          rfl
      · right
        rw [c1]
        refine ⟨rfl, hv', L, mv, ev', bu, td, ks', ws', pa', ca', ra', ni', wi', ho', lv, f', ?_, ?_, c7⟩
        · unfold mX7_carryOut mX0_kind
          rw [if_neg (by decide), if_neg (by decide), if_neg (by decide), if_neg (by decide), if_pos rfl, ek, c5]
          rfl
        · unfold mX8_carriesOut
          rw [if_neg (by decide), if_neg (by decide), if_neg (by decide), if_neg (by decide), if_pos rfl, e2, c2, Option.bind_some, if_neg (by decide), c3, Option.bind_some, Option.bind_some, if_pos (show (if (-1 : Int32) = -1 then (0 : Int32) else 2) = 0 by decide), code_c l8, c6]
          rfl
  · subst hK
    have hn' := hn (Or.inr rfl)
    subst hn'
    unfold mX7_canCarryOut mX0_kind mX0_number
    rw [if_neg (by decide), if_neg (by decide), if_neg (by decide), if_pos rfl]
    rcases lim01 n0 with e | e
    · left
      rw [e]
      refine ⟨rfl, ?_⟩
      unfold mX8_carriesOut
      rw [if_neg (by decide), if_neg (by decide), if_neg (by decide), if_pos rfl, lim_c, e]
      rfl
    · right
      rw [e]
      refine ⟨rfl, hv, n0, mv, ev, bu, td, ks, ws, pa, ca, ra, ni, wi, ho, lv, upd f 0 n0, ?_, ?_, h.lim n0⟩
      · unfold mX7_carryOut mX0_kind mX0_number
        rw [if_neg (by decide), if_neg (by decide), if_neg (by decide), if_pos rfl]
        rfl
      · unfold mX8_carriesOut
        rw [if_neg (by decide), if_neg (by decide), if_neg (by decide), if_pos rfl, lim_c, e]
        rfl
  · subst hK
    right
    obtain ⟨r, hv', mv', ks', ws', pa', ca', ra', ni', wi', ho', lv', f', c1, c2, c3⟩ := h.comp lv
    refine ⟨rfl, hv', L, mv', ev, bu, td, ks', ws', pa', ca', ra', ni', wi', ho', lv', f', ?_, ?_, c3⟩
    · unfold mX7_carryOut mX0_kind
      rw [if_neg (by decide), if_neg (by decide), if_neg (by decide), if_neg (by decide), if_neg (by decide), c1]
      rfl
    · unfold mX8_carriesOut
      rw [if_neg (by decide), if_neg (by decide), if_neg (by decide), if_neg (by decide), if_neg (by decide), c2]
      rfl
end Carry
/-- a text that is right from a place on, so many commands -/
def Gd (T : Nat) (tx : Nat → Int32) (t : Nat → Nat) : Nat → Nat → Prop
  | 0, p => p = T
  | c + 1, p => p < T ∧ ∃ q K le LEN nu, p < q ∧ q ≤ T ∧ Okc T tx t p q K le LEN nu ∧ Cmd K le LEN nu ∧ Gd T tx t c q
section Run
variable {T : Nat} {tx sg : Nat → Int32} {t : Nat → Nat}
theorem l9_skip (hT : T ≤ 120) (hs : ∀ i, i < T → sg i = nI (t i)) : ∀ (d p m : Nat) (s s' : St6), Acc t d p s s' → p + d ≤ T → mX7_findFault_L9 (nI T) sg (m + d) (nI p) s.1 s.2.1 s.2.2.1 s.2.2.2.1 s.2.2.2.2.1 s.2.2.2.2.2 = mX7_findFault_L9 (nI T) sg m (nI (p + d)) s'.1 s'.2.1 s'.2.2.1 s'.2.2.2.1 s'.2.2.2.2.1 s'.2.2.2.2.2 := by
  intro d
  induction d with
  | zero =>
    intro p m s s' h1 _
    have : s = s' := h1
    subst this
    rfl
  | succ d ih =>
    intro p m s s' h1 h2
    obtain ⟨r, s1, a1, a2, a3, a4⟩ := h1
    have hg : mX1_signAt sg (nI p) = nI (t p) := by
      unfold mX1_signAt
      rw [at_nI sg (by omega) (by omega), hs p (by omega)]
    have a1' : mX0_read s.1 s.2.1 s.2.2.1 s.2.2.2.1 s.2.2.2.2.1 s.2.2.2.2.2 (nI (t p)) = some (r, s1) := a1
    rw [show m + (d + 1) = (m + d) + 1 by omega, mX7_findFault_L9, show mX1_length (nI T) = nI T from rfl, if_neg (nI_ge (by omega) (by omega)), hg, a1']
    simp only [Option.bind_some]
    rw [if_neg a2, nI_1, ih (p + 1) m s1 s' a4 (by omega), show p + 1 + d = p + (d + 1) by omega]
theorem fault_c (hT : T ≤ 120) (ht : ∀ i, i < T → tx i = nI (t i)) (hs : ∀ i, i < T → sg i = nI (t i)) (h127 : ∀ i, i < T → t i ≤ 127) : ∀ (z p m m2 : Nat) (s : St6) (sn rl rn n0 : Int32), p + z = T → z < m → z < m2 → s.1 = 0 →
    (∃ c, Gd T tx t c p ∧ ∃ (s' : St6) (sn' rl' rn' n0' : Int32), s'.1 = 0 ∧ mX7_findFault_L9 (nI T) sg m (nI p) s.1 s.2.1 s.2.2.1 s.2.2.2.1 s.2.2.2.2.1 s.2.2.2.2.2 = some (1, nI T, s') ∧ mX8_runCommands_L12 (nI T) tx m2 1 (nI p) sn rl rn n0 = some (1, nI T, sn', rl', rn', n0')) ∨
    (∃ q, q ≤ T ∧ ∃ (s' : St6) (k : Nat) (y : Int32) (sn' rl' rn' n0' : Int32), mX7_findFault_L9 (nI T) sg m (nI p) s.1 s.2.1 s.2.2.1 s.2.2.2.1 s.2.2.2.2.1 s.2.2.2.2.2 = some (k, y, s') ∧ ((k = 0 ∧ y = nI q) ∨ (k = 1 ∧ q = T ∧ s'.1 = 1)) ∧ mX8_runCommands_L12 (nI T) tx m2 1 (nI p) sn rl rn n0 = some (0, nI q, sn', rl', rn', n0')) := by
  intro z
  induction z using Nat.strongRecOn with
  | ind z ih =>
    intro p m m2 s sn rl rn n0 hz hm hm2 hs0
    rcases Nat.eq_zero_or_pos z with h0 | h0
    · subst h0
      obtain ⟨m, rfl⟩ : ∃ x, m = x + 1 := ⟨m - 1, by omega⟩
      obtain ⟨m2, rfl⟩ : ∃ x, m2 = x + 1 := ⟨m2 - 1, by omega⟩
      have e : p = T := by omega
      subst e
      refine Or.inl ⟨0, rfl, s, sn, rl, rn, n0, hs0, ?_, ?_⟩
      · rw [mX7_findFault_L9, show mX1_length (nI p) = nI p from rfl, if_pos (nI_le (Nat.le_refl _) (by omega))]
      · rw [mX8_runCommands_L12, if_neg (by decide), if_pos (nI_le (Nat.le_refl _) (by omega))]
    · obtain ⟨m2, rfl⟩ : ∃ x, m2 = x + 1 := ⟨m2 - 1, by omega⟩
      rcases cmd_c hT ht h127 (show p < T by omega) with ⟨q, K, le, LEN, nu, q1, q2, hO, hC⟩ | ⟨q, q1, q2, hF⟩
      · obtain ⟨o1, o2⟩ := hO
        obtain ⟨rl', rn', nu', e1, -, -⟩ := o1 rl rn n0
        obtain ⟨d, s', di, d1, d2, d3⟩ := o2 s hs0
        have hg : mX1_signAt sg (nI (p + d)) = nI (t (p + d)) := by
          unfold mX1_signAt
          rw [at_nI sg (by omega) (by omega), hs _ (by omega)]
        obtain ⟨m, rfl⟩ : ∃ x, m = (x + 1) + d := ⟨m - 1 - d, by omega⟩
        have d3' : mX0_read s'.1 s'.2.1 s'.2.2.1 s'.2.2.2.1 s'.2.2.2.2.1 s'.2.2.2.2.2 (nI (t (p + d))) = some (1, 0, K, le, LEN, nu, di) := d3
        have step : mX7_findFault_L9 (nI T) sg (m + 1 + d) (nI p) s.1 s.2.1 s.2.2.1 s.2.2.2.1 s.2.2.2.2.1 s.2.2.2.2.2 = mX7_findFault_L9 (nI T) sg m (nI q) 0 K le LEN nu di := by
          rw [l9_skip hT hs d p (m + 1) s s' d2 (by omega), mX7_findFault_L9, show mX1_length (nI T) = nI T from rfl, if_neg (nI_ge (by omega) (by omega)), hg, d3']
          simp only [Option.bind_some]
          rw [if_neg (by decide), nI_1, show p + d + 1 = q by omega]
        have stepr : mX8_runCommands_L12 (nI T) tx (m2 + 1) 1 (nI p) sn rl rn n0 = mX8_runCommands_L12 (nI T) tx m2 1 (nI q) K rl' rn' nu' := by
          rw [mX8_runCommands_L12, if_neg (by decide), if_neg (nI_ge (by omega) (by omega)), e1]
          rfl
        rw [step, stepr]
        have hih := ih (T - q) (by omega) q m m2 (0, K, le, LEN, nu, di) K rl' rn' nu' (by omega) (by omega) (by omega) rfl
        rcases hih with ⟨c, c1, c2⟩ | c1
        · exact Or.inl ⟨c + 1, ⟨by omega, q, K, le, LEN, nu, q1, q2, ⟨o1, o2⟩, hC, c1⟩, c2⟩
        · exact Or.inr c1
      · right
        obtain ⟨f1, f2⟩ := hF
        obtain ⟨K, rl', rn', nu', e1⟩ := f1 rl rn n0
        obtain ⟨d, s', d1, d2, d3, d4⟩ := f2 s hs0
        obtain ⟨m, rfl⟩ : ∃ x, m = (x + 1) + d := ⟨m - 1 - d, by omega⟩
        obtain ⟨m2, rfl⟩ : ∃ x, m2 = x + 1 := ⟨m2 - 1, by omega⟩
        have stepr : mX8_runCommands_L12 (nI T) tx (m2 + 1 + 1) 1 (nI p) sn rl rn n0 = some (0, nI q, K, rl', rn', nu') := by
          rw [mX8_runCommands_L12, if_neg (by decide), if_neg (nI_ge (by omega) (by omega)), e1]
          rfl
        rw [l9_skip hT hs d p (m + 1) s s' d2 (by omega), stepr, mX7_findFault_L9, show mX1_length (nI T) = nI T from rfl]
        rcases Nat.lt_or_ge q T with h1 | h1
        · have hg : mX1_signAt sg (nI (p + d)) = nI (t q) := by
            unfold mX1_signAt
            rw [← d1, at_nI sg (by omega) (by omega), hs _ h1]
          obtain ⟨st, e2⟩ := d3 h1
          have e2' : mX0_read s'.1 s'.2.1 s'.2.2.1 s'.2.2.2.1 s'.2.2.2.2.1 s'.2.2.2.2.2 (nI (t q)) = some (0, st) := e2
          rw [if_neg (nI_ge (by omega) (by omega)), hg, e2']
          refine ⟨q, q2, st, 0, nI q, K, rl', rn', nu', ?_, Or.inl ⟨rfl, rfl⟩, rfl⟩
          rw [← d1]
          rfl
        · rw [if_pos (nI_le (by omega) (by omega))]
          exact ⟨q, q2, s', 1, nI (p + d), K, rl', rn', nu', rfl, Or.inr ⟨rfl, by omega, d4 (by omega)⟩, rfl⟩
theorem l40_s (m : Nat) (dn i hv L mv ev bu td : Int32) (ks ws pa ca ra ni wi ho lv : Nat → Int32) (s : St6) : mX7_runCommands_L40 (nI T) sg (m + 1) (dn, i, hv, L, mv, ev, bu, td, ks, ws, pa, ca, ra, ni, wi, ho, lv, s) = mX7_runCommands_L40_S (nI T) sg (mX7_runCommands_L40 (nI T) sg m) dn i hv L mv ev bu td ks ws pa ca ra ni wi ho lv s.1 s.2.1 s.2.2.1 s.2.2.2.1 s.2.2.2.2.1 s.2.2.2.2.2 := rfl
theorem l40_skip (hT : T ≤ 120) (hs : ∀ i, i < T → sg i = nI (t i)) (dn hv L mv ev bu td : Int32) (ks ws pa ca ra ni wi ho lv : Nat → Int32) : ∀ (d p m : Nat) (s s' : St6), Acc t d p s s' → p + d ≤ T → mX7_runCommands_L40 (nI T) sg (m + d) (dn, nI p, hv, L, mv, ev, bu, td, ks, ws, pa, ca, ra, ni, wi, ho, lv, s) = mX7_runCommands_L40 (nI T) sg m (dn, nI (p + d), hv, L, mv, ev, bu, td, ks, ws, pa, ca, ra, ni, wi, ho, lv, s') := by
  intro d
  induction d with
  | zero =>
    intro p m s s' h1 _
    have : s = s' := h1
    subst this
    rfl
  | succ d ih =>
    intro p m s s' h1 h2
    obtain ⟨r, s1, a1, a2, a3, a4⟩ := h1
    have hg : mX1_signAt sg (nI p) = nI (t p) := by
      unfold mX1_signAt
      rw [at_nI sg (by omega) (by omega), hs p (by omega)]
    have a1' : mX0_read s.1 s.2.1 s.2.2.1 s.2.2.2.1 s.2.2.2.2.1 s.2.2.2.2.2 (nI (t p)) = some (r, s1) := a1
    rw [show m + (d + 1) = (m + d) + 1 by omega, l40_s]
    unfold mX7_runCommands_L40_S
    rw [show mX1_length (nI T) = nI T from rfl, if_neg (nI_ge (by omega) (by omega)), hg, a1']
    simp only [Option.bind_some]
    rw [show mX0_isBetweenCommands s1.1 = 0 by unfold mX0_isBetweenCommands; rw [a3]; rfl, if_pos rfl, nI_1]
    have := ih (p + 1) m s1 s' a4 (by omega)
    rw [show p + 1 + d = p + (d + 1) by omega] at this
    exact this
theorem run_c (hT : T ≤ 120) (hs : ∀ i, i < T → sg i = nI (t i)) : ∀ (c p m m2 : Nat) (dn hv L mv ev bu td : Int32) (ks ws pa ca ra ni wi ho lv f : Nat → Int32) (s : St6) (sn rl rn n0 : Int32), Gd T tx t c p → p ≤ T → T - p < m → T - p < m2 → s.1 = 0 → TS hv L mv ev bu td ks ws pa ca ra ni wi ho f →
    ∃ (k : Nat) (dn' i' hv' L' mv' ev' bu' td' : Int32) (ks' ws' pa' ca' ra' ni' wi' ho' lv' f' : Nat → Int32) (s' : St6) (x3 pl sn' rl' rn' n0' : Int32), mX7_runCommands_L40 (nI T) sg m (dn, nI p, hv, L, mv, ev, bu, td, ks, ws, pa, ca, ra, ni, wi, ho, lv, s) = some (k, dn', i', hv', L', mv', ev', bu', td', ks', ws', pa', ca', ra', ni', wi', ho', lv', s') ∧ (k = 0 ∨ k = 1) ∧
      mX8_runCommands_L60 (nI T) tx m2 dn 1 (nI p) sn rl rn n0 f = some (dn', x3, pl, sn', rl', rn', n0', f') ∧ TS hv' L' mv' ev' bu' td' ks' ws' pa' ca' ra' ni' wi' ho' f' := by
  intro c
  induction c with
  | zero =>
    intro p m m2 dn hv L mv ev bu td ks ws pa ca ra ni wi ho lv f s sn rl rn n0 hG hp hm hm2 hs0 h
    obtain ⟨m, rfl⟩ : ∃ x, m = x + 1 := ⟨m - 1, by omega⟩
    obtain ⟨m2, rfl⟩ : ∃ x, m2 = x + 1 := ⟨m2 - 1, by omega⟩
    have e : p = T := hG
    subst e
    refine ⟨1, dn, nI p, hv, L, mv, ev, bu, td, ks, ws, pa, ca, ra, ni, wi, ho, lv, f, s, 1, nI p, sn, rl, rn, n0, ?_, Or.inr rfl, ?_, h⟩
    · rw [l40_s]
      unfold mX7_runCommands_L40_S
      rw [show mX1_length (nI p) = nI p from rfl, if_pos (nI_le (Nat.le_refl _) (by omega))]
    · rw [mX8_runCommands_L60, if_neg (by decide), if_pos (nI_le (Nat.le_refl _) (by omega))]
  | succ c ih =>
    intro p m m2 dn hv L mv ev bu td ks ws pa ca ra ni wi ho lv f s sn rl rn n0 hG hp hm hm2 hs0 h
    obtain ⟨hpT, q, K, le, LEN, nu, q1, q2, ⟨o1, o2⟩, hC, hG'⟩ := hG
    obtain ⟨m2, rfl⟩ : ∃ x, m2 = x + 1 := ⟨m2 - 1, by omega⟩
    obtain ⟨rl', rn', nu', e1, e2, e3⟩ := o1 rl rn n0
    obtain ⟨d, s', di, d1, d2, d3⟩ := o2 s hs0
    have hg : mX1_signAt sg (nI (p + d)) = nI (t (p + d)) := by
      unfold mX1_signAt
      rw [at_nI sg (by omega) (by omega), hs _ (by omega)]
    obtain ⟨m, rfl⟩ : ∃ x, m = (x + 1) + d := ⟨m - 1 - d, by omega⟩
    have d3' : mX0_read s'.1 s'.2.1 s'.2.2.1 s'.2.2.2.1 s'.2.2.2.2.1 s'.2.2.2.2.2 (nI (t (p + d))) = some (1, 0, K, le, LEN, nu, di) := d3
    have hbt : ¬ mX0_isBetweenCommands 0 = 0 := by decide
    rw [l40_skip hT hs dn hv L mv ev bu td ks ws pa ca ra ni wi ho lv d p (m + 1) s s' d2 (by omega), l40_s, mX8_runCommands_L60, if_neg (by decide), if_neg (nI_ge (by omega) (by omega)), e1]
    unfold mX7_runCommands_L40_S
    rw [show mX1_length (nI T) = nI T from rfl, if_neg (nI_ge (by omega) (by omega)), hg, d3']
    simp only [Option.bind_some]
    rw [if_neg hbt]
    rcases carry h hC lv e2 e3 with ⟨c1, c2⟩ | ⟨c1, hv', L', mv', ev', bu', td', ks', ws', pa', ca', ra', ni', wi', ho', lv', f', c2, c3, c4⟩
    · rw [c1, c2]
      simp only [Option.bind_some]
      obtain ⟨m2, rfl⟩ : ∃ x, m2 = x + 1 := ⟨m2 - 1, by omega⟩
      refine ⟨0, dn, nI (p + d), hv, L, mv, ev, bu, td, ks, ws, pa, ca, ra, ni, wi, ho, lv, f, (0, K, le, LEN, nu, di), 0, nI q, K, rl', rn', nu', ?_, Or.inl rfl, ?_, h⟩
      · rfl
      · rw [mX8_runCommands_L60, if_pos rfl, if_pos trivial, Int32.add_zero]
    · rw [c1, c3]
      simp only [Option.bind_some]
      rw [if_neg (show ¬ (1 : Int32) = 0 by decide), c2]
      simp only [Option.bind_some]
      rw [nI_1, show p + d + 1 = q by omega]
      exact ih q m m2 (dn + 1) hv' L' mv' ev' bu' td' ks' ws' pa' ca' ra' ni' wi' ho' lv' f' (0, K, le, LEN, nu, di) K rl' rn' nu' hG' q2 (by omega) (by omega) rfl c4
end Run
