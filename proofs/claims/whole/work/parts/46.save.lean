/-! What is saved, and what is restored. -/
abbrev St8 : Type := Int32 × Int32 × Int32 × Int32 × Int32 × Int32 × (Nat → Int32) × (Nat → Int32)
/-- a state of the class and one of the reference -/
def SS (hv L mv ev bu td : Int32) (ks ws : Nat → Int32) (g : Nat → Int32) : Prop :=
  ∃ (H : Nat) (k : Nat → Nat) (C : Nat → Prop) (N : Nat) (n : Nat → Nat) (W : Nat → Int32), Tn H k C N n W ∧ hv = nI H ∧ Kc ks ws H k W ∧ Rf g H k N n W ∧ L = g 0 ∧ mv = g 3 ∧ ev = g 4 ∧ bu = g 5 ∧ td = g 6
def SS8 (s : St8) (g : Nat → Int32) : Prop := SS s.1 s.2.1 s.2.2.1 s.2.2.2.1 s.2.2.2.2.1 s.2.2.2.2.2.1 s.2.2.2.2.2.2.1 s.2.2.2.2.2.2.2 g
theorem Rf.cells {f g : Nat → Int32} {H : Nat} {k : Nat → Nat} {N : Nat} {n : Nat → Nat} {W : Nat → Int32} (hR : Rf f H k N n W) (hH : H ≤ 193) (hN : N ≤ 24) (e : ∀ i, i < 255 → g i = f i) : Rf g H k N n W :=
  ⟨by rw [e 2 (by omega)]; exact hR.1, fun i hi => by rw [e _ (by omega)]; exact hR.2.1 i hi, by rw [e 1 (by omega)]; exact hR.2.2.1, fun r hr => by rw [e _ (by omega)]; exact hR.2.2.2.1 r hr, fun r hr => by rw [e _ (by omega)]; exact hR.2.2.2.2 r hr⟩
theorem SS.cells {hv L mv ev bu td : Int32} {ks ws f g : Nat → Int32} (h : SS hv L mv ev bu td ks ws f) (e : ∀ i, i < 255 → g i = f i) : SS hv L mv ev bu td ks ws g := by
  obtain ⟨H, k, C, N, n, W, h1, h2, h3, h4, h5, h6, h7, h8, h9⟩ := h
  exact ⟨H, k, C, N, n, W, h1, h2, h3, h4.cells h1.1.le h1.2.1.2.2 e, by rw [e 0 (by omega)]; exact h5, by rw [e 3 (by omega)]; exact h6, by rw [e 4 (by omega)]; exact h7, by rw [e 5 (by omega)]; exact h8, by rw [e 6 (by omega)]; exact h9⟩
theorem SS.copy {hv L mv ev bu td : Int32} {ks ws f : Nat → Int32} (h : SS hv L mv ev bu td ks ws f) (a b : Nat → Int32) : ∃ ks' ws', mX4_copyFrom a b hv L mv ev bu td ks ws = some (hv, L, mv, ev, bu, td, ks', ws') ∧ SS hv L mv ev bu td ks' ws' f := by
  obtain ⟨H, k, C, N, n, W, h1, h2, h3, h4, h5⟩ := h
  subst h2
  obtain ⟨ks', e1, e2⟩ := copy_c a ks h1.1.le
  obtain ⟨ws', e3, e4⟩ := copy_c b ws h1.1.le
  refine ⟨ks', ws', ?_, H, k, C, N, n, W, h1, rfl, fun i hi => by rw [e2 i hi, e4 i hi]; exact h3 i hi, h4, h5⟩
  unfold mX4_copyFrom
  rw [e1, Option.bind_some, e3, Option.bind_some]
theorem rcopy_c (n0 n2 : Nat) (f0 f2 : Nat → Int32) {a b : Nat} (h0 : a + 255 ≤ n0) (h2 : b + 255 ≤ n2) (hn0 : n0 < 2 ^ 31) (hn2 : n2 < 2 ^ 31) :
    ∃ g, mX8_copy n0 n2 f0 f2 (nI a) (nI b) = some g ∧ (∀ j, j < 255 → g (b + j) = f0 (a + j)) ∧ ∀ i, i < b ∨ b + 255 ≤ i → g i = f2 i := by
  obtain ⟨t, ht, e⟩ := lpI (fun m i (s : Nat → Int32) => mX8_copy_L3 n0 f0 (nI a) n2 (nI b) m (nI i) s) 255 (fun i s => (∀ j, j < i → s (b + j) = f0 (a + j)) ∧ ∀ j, j < b ∨ b + 255 ≤ j → s j = f2 j) (fun t => (∀ j, j < 255 → t.2 (b + j) = f0 (a + j)) ∧ ∀ i, i < b ∨ b + 255 ≤ i → t.2 i = f2 i)
    (fun m i s hi hI => by
      refine ⟨upd s (b + i) (f0 (a + i)), ⟨fun j hj => ?_, fun j hj => ?_⟩, ?_⟩
      · rcases Nat.lt_or_ge j i with h3 | h3
        · rw [upd_of (by omega), hI.1 j h3]
        · have : j = i := by omega
          subst this
          exact upd_at _ _ _
      · rw [upd_of (by omega), hI.2 j hj]
      · show mX8_copy_L3 n0 f0 (nI a) n2 (nI b) (m + 1) (nI i) s = mX8_copy_L3 n0 f0 (nI a) n2 (nI b) m (nI (i + 1)) _
        rw [mX8_copy_L3, if_neg (fun e => by have := (q_gen 255 (by omega) (by omega)).mp e; omega), nI_add, rd_nI f0 (by omega) hn0, Option.bind_some, nI_add, wr_nI s _ (by omega) hn2, Option.bind_some, nI_1])
    (fun m s hI => by
      refine ⟨(nI 255, s), hI, ?_⟩
      show mX8_copy_L3 n0 f0 (nI a) n2 (nI b) (m + 1) (nI 255) s = _
      rw [mX8_copy_L3, if_pos (by decide +kernel)])
    255 FU 0 f2 (by omega) (by unfold FU; omega) ⟨fun j hj => absurd hj (Nat.not_lt_zero _), fun _ _ => rfl⟩
  refine ⟨t.2, ?_, ht⟩
  unfold mX8_copy
  rw [show mX8_copy_L3 n0 f0 (nI a) n2 (nI b) FU 0 f2 = _ from e]
  rfl
/-- the reference saves -/
theorem rsave_c (f stk : Nat → Int32) {m : Nat} (hm : m ≤ 4) : ∃ (m' : Nat) (stk' : Nat → Int32), mX8_save (nI m) f stk = some (nI m', stk') ∧ ((m < 4 ∧ m' = m + 1 ∧ ∀ p, p < m → ∀ j, j < 255 → stk' (p * 255 + j) = stk (p * 255 + j)) ∨ (m = 4 ∧ m' = 4 ∧ ∀ p, p < 3 → ∀ j, j < 255 → stk' (p * 255 + j) = stk ((p + 1) * 255 + j))) ∧ ∀ j, j < 255 → stk' ((m' - 1) * 255 + j) = f j := by
  rcases Nat.lt_or_ge m 4 with h | h
  · obtain ⟨g, g1, g2, g3⟩ := rcopy_c 255 1020 f stk (a := 0) (b := m * 255) (by omega) (by omega) (by omega) (by omega)
    refine ⟨m + 1, g, ?_, Or.inl ⟨h, rfl, fun p hp j hj => g3 _ (by omega)⟩, fun j hj => by rw [Nat.add_sub_cancel, g2 j hj, Nat.zero_add]⟩
    unfold mX8_save
    rw [if_neg (by rw [q_eqn 4 (by omega) (by omega)]; omega), show nI m * 255 = nI (m * 255) from q_mul m 255, show mX8_copy 255 1020 f stk 0 (nI (m * 255)) = _ from g1, Option.bind_some, nI_1]
  · have : m = 4 := by omega
    subst this
    obtain ⟨t, ht, e⟩ := lpI (fun m i (s : Nat → Int32) => mX8_save_L10 m (nI i) s) 765 (fun i s => (∀ j, j < i → s j = stk (j + 255)) ∧ ∀ j, i ≤ j → s j = stk j) (fun t => ∀ j, j < 765 → t.2 j = stk (j + 255))
      (fun m i s hi hI => by
        refine ⟨upd s i (stk (i + 255)), ⟨fun j hj => ?_, fun j hj => ?_⟩, ?_⟩
        · rcases Nat.lt_or_ge j i with h3 | h3
          · rw [upd_of (by omega), hI.1 j h3]
          · have : j = i := by omega
            subst this
            exact upd_at _ _ _
        · rw [upd_of (by omega), hI.2 j (by omega)]
        · show mX8_save_L10 (m + 1) (nI i) s = mX8_save_L10 m (nI (i + 1)) _
          rw [mX8_save_L10, if_neg (fun e => by have := (q_gen 765 (by omega) (by omega)).mp e; omega), show nI i + 255 = nI (i + 255) from nI_add i 255, rd_nI s (by omega) (by omega), Option.bind_some, hI.2 (i + 255) (by omega), wr_nI s _ (by omega) (by omega), Option.bind_some, nI_1])
      (fun m s hI => by
        refine ⟨(nI 765, s), hI.1, ?_⟩
        show mX8_save_L10 (m + 1) (nI 765) s = _
        rw [mX8_save_L10, if_pos (by decide +kernel)])
      765 FU 0 stk (by omega) (by unfold FU; omega) ⟨fun j hj => absurd hj (Nat.not_lt_zero _), fun _ _ => rfl⟩
    obtain ⟨g, g1, g2, g3⟩ := rcopy_c 255 1020 f t.2 (a := 0) (b := 765) (by omega) (by omega) (by omega) (by omega)
    refine ⟨4, g, ?_, Or.inr ⟨rfl, rfl, fun p hp j hj => ?_⟩, fun j hj => by rw [show (4 - 1) * 255 + j = 765 + j by omega, g2 j hj, Nat.zero_add]⟩
    · unfold mX8_save
      rw [if_pos (by decide +kernel), show mX8_save_L10 FU 0 stk = _ from e]
      simp only [Option.bind_some]
      rw [show (nI 4 - 1) * 255 = nI 765 by decide +kernel, show mX8_copy 255 1020 f t.2 0 (nI 765) = _ from g1, Option.bind_some, show nI 4 - 1 + 1 = nI 4 by decide +kernel]
    · rw [g3 _ (by omega), ht _ (by omega), show p * 255 + j + 255 = (p + 1) * 255 + j by omega]
def sl (i : Nat) (s0 s1 s2 s3 : St8) : St8 := if i = 0 then s0 else if i = 1 then s1 else if i = 2 then s2 else s3
/-- the ring of one side, the stack of the other -/
def Sav (nx sz : Int32) (vh0 vl0 vm0 ve0 vb0 vt0 : Int32) (vk0 vw0 : Nat → Int32) (vh1 vl1 vm1 ve1 vb1 vt1 : Int32) (vk1 vw1 : Nat → Int32) (vh2 vl2 vm2 ve2 vb2 vt2 : Int32) (vk2 vw2 : Nat → Int32) (vh3 vl3 vm3 ve3 vb3 vt3 : Int32) (vk3 vw3 : Nat → Int32) (saved : Int32) (stk : Nat → Int32) : Prop :=
  ∃ x m : Nat, x < 4 ∧ m ≤ 4 ∧ nx = nI x ∧ sz = nI m ∧ saved = nI m ∧ ∀ p, p < m → SS8 (sl ((x + 4 - m + p) % 4) (vh0, vl0, vm0, ve0, vb0, vt0, vk0, vw0) (vh1, vl1, vm1, ve1, vb1, vt1, vk1, vw1) (vh2, vl2, vm2, ve2, vb2, vt2, vk2, vw2) (vh3, vl3, vm3, ve3, vb3, vt3, vk3, vw3)) (fun j => stk (p * 255 + j))
theorem SS8.cells {s : St8} {f g : Nat → Int32} (h : SS8 s f) (e : ∀ i, i < 255 → g i = f i) : SS8 s g := SS.cells h e
theorem sav_in {F F' : Nat → St8} {stk stk' : Nat → Int32} {x m m' : Nat} {g : Nat → Int32} (hx : x < 4) (hm : m ≤ 4) (h : ∀ p, p < m → SS8 (F ((x + 4 - m + p) % 4)) (fun j => stk (p * 255 + j))) (h1 : SS8 (F' x) g) (h2 : ∀ i, i < 4 → i ≠ x → F' i = F i)
    (h3 : (m < 4 ∧ m' = m + 1 ∧ ∀ p, p < m → ∀ j, j < 255 → stk' (p * 255 + j) = stk (p * 255 + j)) ∨ (m = 4 ∧ m' = 4 ∧ ∀ p, p < 3 → ∀ j, j < 255 → stk' (p * 255 + j) = stk ((p + 1) * 255 + j))) (h4 : ∀ j, j < 255 → stk' ((m' - 1) * 255 + j) = g j) :
    ∀ p, p < m' → SS8 (F' (((x + 1) % 4 + 4 - m' + p) % 4)) (fun j => stk' (p * 255 + j)) := by
  intro p hp
  rcases h3 with ⟨a1, a2, a3⟩ | ⟨a1, a2, a3⟩
  · rcases Nat.lt_or_ge p m with h5 | h5
    · have e : ((x + 1) % 4 + 4 - m' + p) % 4 = (x + 4 - m + p) % 4 := by omega
      rw [e, h2 _ (by omega) (by omega)]
      exact (h p h5).cells (fun i hi => a3 p h5 i hi)
    · have e : ((x + 1) % 4 + 4 - m' + p) % 4 = x := by omega
      rw [e]
      refine h1.cells (fun i hi => ?_)
      have := h4 i hi
      rw [show m' - 1 = p by omega] at this
      exact this
  · rcases Nat.lt_or_ge p 3 with h5 | h5
    · have e : ((x + 1) % 4 + 4 - m' + p) % 4 = (x + 4 - m + (p + 1)) % 4 := by omega
      rw [e, h2 _ (by omega) (by omega)]
      exact (h (p + 1) (by omega)).cells (fun i hi => a3 p h5 i hi)
    · have e : ((x + 1) % 4 + 4 - m' + p) % 4 = x := by omega
      rw [e]
      refine h1.cells (fun i hi => ?_)
      have := h4 i hi
      rw [show m' - 1 = p by omega] at this
      exact this
set_option maxHeartbeats 4000000 in
theorem push_c {nx sz : Int32} {vh0 vl0 vm0 ve0 vb0 vt0 : Int32} {vk0 vw0 : Nat → Int32} {vh1 vl1 vm1 ve1 vb1 vt1 : Int32} {vk1 vw1 : Nat → Int32} {vh2 vl2 vm2 ve2 vb2 vt2 : Int32} {vk2 vw2 : Nat → Int32} {vh3 vl3 vm3 ve3 vb3 vt3 : Int32} {vk3 vw3 : Nat → Int32} {saved : Int32} {stk : Nat → Int32} {hv L mv ev bu td : Int32} {ks ws f : Nat → Int32} (h : Sav nx sz vh0 vl0 vm0 ve0 vb0 vt0 vk0 vw0 vh1 vl1 vm1 ve1 vb1 vt1 vk1 vw1 vh2 vl2 vm2 ve2 vb2 vt2 vk2 vw2 vh3 vl3 vm3 ve3 vb3 vt3 vk3 vw3 saved stk) (hs : SS hv L mv ev bu td ks ws f) :
    ∃ (nx' sz' : Int32) (vh0' vl0' vm0' ve0' vb0' vt0' : Int32) (vk0' vw0' : Nat → Int32) (vh1' vl1' vm1' ve1' vb1' vt1' : Int32) (vk1' vw1' : Nat → Int32) (vh2' vl2' vm2' ve2' vb2' vt2' : Int32) (vk2' vw2' : Nat → Int32) (vh3' vl3' vm3' ve3' vb3' vt3' : Int32) (vk3' vw3' : Nat → Int32) (saved' : Int32) (stk' : Nat → Int32), mX6_push nx sz vh0 vl0 vm0 ve0 vb0 vt0 vk0 vw0 vh1 vl1 vm1 ve1 vb1 vt1 vk1 vw1 vh2 vl2 vm2 ve2 vb2 vt2 vk2 vw2 vh3 vl3 vm3 ve3 vb3 vt3 vk3 vw3 hv L mv ev bu td ks ws = some (nx', sz', vh0', vl0', vm0', ve0', vb0', vt0', vk0', vw0', vh1', vl1', vm1', ve1', vb1', vt1', vk1', vw1', vh2', vl2', vm2', ve2', vb2', vt2', vk2', vw2', vh3', vl3', vm3', ve3', vb3', vt3', vk3', vw3') ∧ mX8_save saved f stk = some (saved', stk') ∧ Sav nx' sz' vh0' vl0' vm0' ve0' vb0' vt0' vk0' vw0' vh1' vl1' vm1' ve1' vb1' vt1' vk1' vw1' vh2' vl2' vm2' ve2' vb2' vt2' vk2' vw2' vh3' vl3' vm3' ve3' vb3' vt3' vk3' vw3' saved' stk' := by
  obtain ⟨x, m, hx, hm, rfl, rfl, rfl, h1⟩ := h
  obtain ⟨m', stk', r1, r2, r3⟩ := rsave_c f stk hm
  have esz : (if (4 : Int32) < nI m + 1 then 4 else nI m + 1) = nI m' := by
    rcases r2 with ⟨a1, a2, -⟩ | ⟨a1, a2, -⟩
    · rw [nI_1, if_neg (fun e => by have := (q_gtn 4 (by omega) (by omega)).mp e; omega), a2]
    · subst a1 a2; decide +kernel
  have hm' : m' ≤ 4 := by
    rcases r2 with ⟨a1, a2, -⟩ | ⟨a1, a2, -⟩ <;> omega
  have hx4 : x = 0 ∨ x = 1 ∨ x = 2 ∨ x = 3 := by omega
  rcases hx4 with hx4 | hx4 | hx4 | hx4
  · subst hx4
    obtain ⟨ks', ws', c1, c2⟩ := hs.copy vk0 vw0
    refine ⟨nI 1, nI m', hv, L, mv, ev, bu, td, ks', ws', vh1, vl1, vm1, ve1, vb1, vt1, vk1, vw1, vh2, vl2, vm2, ve2, vb2, vt2, vk2, vw2, vh3, vl3, vm3, ve3, vb3, vt3, vk3, vw3, nI m', stk', ?_, r1, 1, m', by omega, hm', rfl, rfl, rfl, ?_⟩
    · unfold mX6_push mX6_push_0
      rw [c1]
      simp only [Option.bind_some]
      rw [esz]
      rfl
    · refine sav_in (F := (fun i => sl i (vh0, vl0, vm0, ve0, vb0, vt0, vk0, vw0) (vh1, vl1, vm1, ve1, vb1, vt1, vk1, vw1) (vh2, vl2, vm2, ve2, vb2, vt2, vk2, vw2) (vh3, vl3, vm3, ve3, vb3, vt3, vk3, vw3))) (F' := (fun i => sl i (hv, L, mv, ev, bu, td, ks', ws') (vh1, vl1, vm1, ve1, vb1, vt1, vk1, vw1) (vh2, vl2, vm2, ve2, vb2, vt2, vk2, vw2) (vh3, vl3, vm3, ve3, vb3, vt3, vk3, vw3))) (x := 0) (by omega) hm h1 c2 (fun i hi hne => ?_) r2 r3
      have : i = 0 ∨ i = 1 ∨ i = 2 ∨ i = 3 := by omega
      rcases this with e | e | e | e <;> subst e <;> first | rfl | exact absurd rfl hne
  · subst hx4
    obtain ⟨ks', ws', c1, c2⟩ := hs.copy vk1 vw1
    refine ⟨nI 2, nI m', vh0, vl0, vm0, ve0, vb0, vt0, vk0, vw0, hv, L, mv, ev, bu, td, ks', ws', vh2, vl2, vm2, ve2, vb2, vt2, vk2, vw2, vh3, vl3, vm3, ve3, vb3, vt3, vk3, vw3, nI m', stk', ?_, r1, 2, m', by omega, hm', rfl, rfl, rfl, ?_⟩
    · unfold mX6_push mX6_push_1
      rw [c1]
      simp only [Option.bind_some]
      rw [esz]
      rfl
    · refine sav_in (F := (fun i => sl i (vh0, vl0, vm0, ve0, vb0, vt0, vk0, vw0) (vh1, vl1, vm1, ve1, vb1, vt1, vk1, vw1) (vh2, vl2, vm2, ve2, vb2, vt2, vk2, vw2) (vh3, vl3, vm3, ve3, vb3, vt3, vk3, vw3))) (F' := (fun i => sl i (vh0, vl0, vm0, ve0, vb0, vt0, vk0, vw0) (hv, L, mv, ev, bu, td, ks', ws') (vh2, vl2, vm2, ve2, vb2, vt2, vk2, vw2) (vh3, vl3, vm3, ve3, vb3, vt3, vk3, vw3))) (x := 1) (by omega) hm h1 c2 (fun i hi hne => ?_) r2 r3
      have : i = 0 ∨ i = 1 ∨ i = 2 ∨ i = 3 := by omega
      rcases this with e | e | e | e <;> subst e <;> first | rfl | exact absurd rfl hne
  · subst hx4
    obtain ⟨ks', ws', c1, c2⟩ := hs.copy vk2 vw2
    refine ⟨nI 3, nI m', vh0, vl0, vm0, ve0, vb0, vt0, vk0, vw0, vh1, vl1, vm1, ve1, vb1, vt1, vk1, vw1, hv, L, mv, ev, bu, td, ks', ws', vh3, vl3, vm3, ve3, vb3, vt3, vk3, vw3, nI m', stk', ?_, r1, 3, m', by omega, hm', rfl, rfl, rfl, ?_⟩
    · unfold mX6_push mX6_push_2
      rw [c1]
      simp only [Option.bind_some]
      rw [esz]
      rfl
    · refine sav_in (F := (fun i => sl i (vh0, vl0, vm0, ve0, vb0, vt0, vk0, vw0) (vh1, vl1, vm1, ve1, vb1, vt1, vk1, vw1) (vh2, vl2, vm2, ve2, vb2, vt2, vk2, vw2) (vh3, vl3, vm3, ve3, vb3, vt3, vk3, vw3))) (F' := (fun i => sl i (vh0, vl0, vm0, ve0, vb0, vt0, vk0, vw0) (vh1, vl1, vm1, ve1, vb1, vt1, vk1, vw1) (hv, L, mv, ev, bu, td, ks', ws') (vh3, vl3, vm3, ve3, vb3, vt3, vk3, vw3))) (x := 2) (by omega) hm h1 c2 (fun i hi hne => ?_) r2 r3
      have : i = 0 ∨ i = 1 ∨ i = 2 ∨ i = 3 := by omega
      rcases this with e | e | e | e <;> subst e <;> first | rfl | exact absurd rfl hne
  · subst hx4
    obtain ⟨ks', ws', c1, c2⟩ := hs.copy vk3 vw3
    refine ⟨nI 0, nI m', vh0, vl0, vm0, ve0, vb0, vt0, vk0, vw0, vh1, vl1, vm1, ve1, vb1, vt1, vk1, vw1, vh2, vl2, vm2, ve2, vb2, vt2, vk2, vw2, hv, L, mv, ev, bu, td, ks', ws', nI m', stk', ?_, r1, 0, m', by omega, hm', rfl, rfl, rfl, ?_⟩
    · unfold mX6_push mX6_push_3
      rw [c1]
      simp only [Option.bind_some]
      rw [esz]
      rfl
    · refine sav_in (F := (fun i => sl i (vh0, vl0, vm0, ve0, vb0, vt0, vk0, vw0) (vh1, vl1, vm1, ve1, vb1, vt1, vk1, vw1) (vh2, vl2, vm2, ve2, vb2, vt2, vk2, vw2) (vh3, vl3, vm3, ve3, vb3, vt3, vk3, vw3))) (F' := (fun i => sl i (vh0, vl0, vm0, ve0, vb0, vt0, vk0, vw0) (vh1, vl1, vm1, ve1, vb1, vt1, vk1, vw1) (vh2, vl2, vm2, ve2, vb2, vt2, vk2, vw2) (hv, L, mv, ev, bu, td, ks', ws'))) (x := 3) (by omega) hm h1 c2 (fun i hi hne => ?_) r2 r3
      have : i = 0 ∨ i = 1 ∨ i = 2 ∨ i = 3 := by omega
      rcases this with e | e | e | e <;> subst e <;> first | rfl | exact absurd rfl hne
set_option maxHeartbeats 4000000 in
theorem pop_c {nx sz : Int32} {vh0 vl0 vm0 ve0 vb0 vt0 : Int32} {vk0 vw0 : Nat → Int32} {vh1 vl1 vm1 ve1 vb1 vt1 : Int32} {vk1 vw1 : Nat → Int32} {vh2 vl2 vm2 ve2 vb2 vt2 : Int32} {vk2 vw2 : Nat → Int32} {vh3 vl3 vm3 ve3 vb3 vt3 : Int32} {vk3 vw3 : Nat → Int32} {saved : Int32} {stk : Nat → Int32} (h : Sav nx sz vh0 vl0 vm0 ve0 vb0 vt0 vk0 vw0 vh1 vl1 vm1 ve1 vb1 vt1 vk1 vw1 vh2 vl2 vm2 ve2 vb2 vt2 vk2 vw2 vh3 vl3 vm3 ve3 vb3 vt3 vk3 vw3 saved stk) (hv L mv ev bu td : Int32) (ks ws f : Nat → Int32) :
    (sz = 0 ∧ saved = 0) ∨ (¬ sz = 0 ∧ ¬ saved ≤ 0 ∧ ∃ (nx' sz' hv' L' mv' ev' bu' td' : Int32) (ks' ws' f' : Nat → Int32), mX6_popInto nx sz vh0 vl0 vm0 ve0 vb0 vt0 vk0 vw0 vh1 vl1 vm1 ve1 vb1 vt1 vk1 vw1 vh2 vl2 vm2 ve2 vb2 vt2 vk2 vw2 vh3 vl3 vm3 ve3 vb3 vt3 vk3 vw3 hv L mv ev bu td ks ws = some (nx', sz', hv', L', mv', ev', bu', td', ks', ws') ∧ sz' = saved - 1 ∧ mX8_copy 1020 255 stk f ((saved - 1) * 255) 0 = some f' ∧ SS hv' L' mv' ev' bu' td' ks' ws' f' ∧ Sav nx' sz' vh0 vl0 vm0 ve0 vb0 vt0 vk0 vw0 vh1 vl1 vm1 ve1 vb1 vt1 vk1 vw1 vh2 vl2 vm2 ve2 vb2 vt2 vk2 vw2 vh3 vl3 vm3 ve3 vb3 vt3 vk3 vw3 (saved - 1) stk) := by
  obtain ⟨x, m, hx, hm, rfl, rfl, rfl, h1⟩ := h
  rcases Nat.eq_zero_or_pos m with h0 | h0
  · subst h0
    exact Or.inl ⟨rfl, rfl⟩
  right
  have e1 : nI m - 1 = nI (m - 1) := by rw [← nI_pred (m - 1), show m - 1 + 1 = m by omega]
  obtain ⟨g, g1, g2, g3⟩ := rcopy_c 1020 255 stk f (a := (m - 1) * 255) (b := 0) (by omega) (by omega) (by omega) (by omega)
  refine ⟨nI_ne0 h0 (by omega), nI_nle h0 (by omega), ?_⟩
  have h2 := h1 (m - 1) (by omega)
  have hcell : ∀ i, i < 255 → g i = stk ((m - 1) * 255 + i) := fun i hi => by
    have := g2 i hi
    rw [Nat.zero_add] at this
    exact this
  have hcp : mX8_copy 1020 255 stk f ((nI m - 1) * 255) 0 = some g := by
    rw [e1, show nI (m - 1) * 255 = nI ((m - 1) * 255) from q_mul (m - 1) 255]
    exact g1
  have hx4 : x = 0 ∨ x = 1 ∨ x = 2 ∨ x = 3 := by omega
  rcases hx4 with hx4 | hx4 | hx4 | hx4
  · subst hx4
    rw [show (0 + 4 - m + (m - 1)) % 4 = 3 by omega] at h2
    have h3 : SS vh3 vl3 vm3 ve3 vb3 vt3 vk3 vw3 (fun j => stk ((m - 1) * 255 + j)) := h2
    obtain ⟨ks', ws', c1, c2⟩ := h3.copy ks ws
    refine ⟨nI 3, nI (m - 1), vh3, vl3, vm3, ve3, vb3, vt3, ks', ws', g, ?_, e1.symm, hcp, c2.cells hcell, 3, m - 1, by omega, by omega, rfl, rfl, e1, fun p hp => ?_⟩
    · unfold mX6_popInto mX6_popInto_0
      rw [if_neg (nI_nle h0 (by omega)), c1]
      simp only [Option.bind_some]
      rw [e1]
      rfl
    · have := h1 p (by omega)
      rw [show (0 + 4 - m + p) % 4 = (3 + 4 - (m - 1) + p) % 4 by omega] at this
      exact this
  · subst hx4
    rw [show (1 + 4 - m + (m - 1)) % 4 = 0 by omega] at h2
    have h3 : SS vh0 vl0 vm0 ve0 vb0 vt0 vk0 vw0 (fun j => stk ((m - 1) * 255 + j)) := h2
    obtain ⟨ks', ws', c1, c2⟩ := h3.copy ks ws
    refine ⟨nI 0, nI (m - 1), vh0, vl0, vm0, ve0, vb0, vt0, ks', ws', g, ?_, e1.symm, hcp, c2.cells hcell, 0, m - 1, by omega, by omega, rfl, rfl, e1, fun p hp => ?_⟩
    · unfold mX6_popInto mX6_popInto_1
      rw [if_neg (nI_nle h0 (by omega)), c1]
      simp only [Option.bind_some]
      rw [e1]
      rfl
    · have := h1 p (by omega)
      rw [show (1 + 4 - m + p) % 4 = (0 + 4 - (m - 1) + p) % 4 by omega] at this
      exact this
  · subst hx4
    rw [show (2 + 4 - m + (m - 1)) % 4 = 1 by omega] at h2
    have h3 : SS vh1 vl1 vm1 ve1 vb1 vt1 vk1 vw1 (fun j => stk ((m - 1) * 255 + j)) := h2
    obtain ⟨ks', ws', c1, c2⟩ := h3.copy ks ws
    refine ⟨nI 1, nI (m - 1), vh1, vl1, vm1, ve1, vb1, vt1, ks', ws', g, ?_, e1.symm, hcp, c2.cells hcell, 1, m - 1, by omega, by omega, rfl, rfl, e1, fun p hp => ?_⟩
    · unfold mX6_popInto mX6_popInto_2
      rw [if_neg (nI_nle h0 (by omega)), c1]
      simp only [Option.bind_some]
      rw [e1]
      rfl
    · have := h1 p (by omega)
      rw [show (2 + 4 - m + p) % 4 = (1 + 4 - (m - 1) + p) % 4 by omega] at this
      exact this
  · subst hx4
    rw [show (3 + 4 - m + (m - 1)) % 4 = 2 by omega] at h2
    have h3 : SS vh2 vl2 vm2 ve2 vb2 vt2 vk2 vw2 (fun j => stk ((m - 1) * 255 + j)) := h2
    obtain ⟨ks', ws', c1, c2⟩ := h3.copy ks ws
    refine ⟨nI 2, nI (m - 1), vh2, vl2, vm2, ve2, vb2, vt2, ks', ws', g, ?_, e1.symm, hcp, c2.cells hcell, 2, m - 1, by omega, by omega, rfl, rfl, e1, fun p hp => ?_⟩
    · unfold mX6_popInto mX6_popInto_3
      rw [if_neg (nI_nle h0 (by omega)), c1]
      simp only [Option.bind_some]
      rw [e1]
      rfl
    · have := h1 p (by omega)
      rw [show (3 + 4 - m + p) % 4 = (2 + 4 - (m - 1) + p) % 4 by omega] at this
      exact this
