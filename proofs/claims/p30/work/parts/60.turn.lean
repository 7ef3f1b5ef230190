/-! One turn of the law. -/
theorem i32_nI (v : Int32) : ∃ a, v = nI a := ⟨v.toBitVec.toNat, by
  apply Int32.toBitVec_inj.1
  show v.toBitVec = BitVec.ofNat 32 v.toBitVec.toNat
  simp⟩
theorem q_div {y n : Nat} (hy : y < 2 ^ 31) (hn : n < 2 ^ 31) : nI y / nI n = nI (y / n) := by
  have hd := Nat.div_le_self y n
  apply Int32.toInt_inj.mp
  rw [Int32.toInt_div, nI_toInt hy, nI_toInt hn, Int.tdiv_eq_ediv_of_nonneg (by omega), nI_toInt (by omega), ← Int.natCast_ediv]
  generalize y / n = d at *
  exact Int.bmod_eq_of_le (by omega) (by omega)
theorem low_c (v : Int32) {n : Nat} (h0 : 0 < n) (hn : n < 2 ^ 31) : ∃ a, a < n ∧ mL_low v (nI n) = some (nI a) := by
  obtain ⟨a0, rfl⟩ := i32_nI v
  have hm : nI a0 &&& (2147483647 : Int32) = nI (a0 % 2 ^ 31) := q_mask a0 31
  have hy : a0 % 2 ^ 31 < 2 ^ 31 := Nat.mod_lt _ (by decide)
  unfold mL_low remO
  rw [hm]
  generalize a0 % 2 ^ 31 = y at *
  refine ⟨y % n, Nat.mod_lt _ h0, ?_⟩
  have h1 := Nat.div_add_mod y n
  rw [Nat.mul_comm] at h1
  rw [if_neg (nI_ne0 h0 hn), Option.bind_some, q_div hy hn, q_mul, q_sub (by omega), show y - y / n * n = y % n by omega]
theorem cell_c (n_s : Nat) (f_s : Nat → Int32) (hs : n_s ≤ 260) {t : Nat} (ht : t < 14) : ∃ v, mL_cell n_s f_s (nI t) = some v := by
  unfold mL_cell
  by_cases c : Int32.ofNat n_s ≤ nI t
  · rw [if_pos c]
    exact ⟨_, rfl⟩
  · have : t < n_s := by
      rcases Nat.lt_or_ge t n_s with h | h
      · exact h
      · exact absurd (show Int32.ofNat n_s ≤ nI t from nI_le h (by omega)) c
    rw [if_neg c, rd_nI f_s this (by omega)]
    exact ⟨_, rfl⟩
theorem upd_self (f : Nat → Int32) (i : Nat) : upd f i (f i) = f := funext fun j => by
  by_cases e : j = i
  · rw [e, upd_at]
  · rw [upd_of e]
theorem wt0 : ∀ w, w < 100 → mX7_requireWeight (nI w) = 0 := by decide +kernel
theorem lim0 : ∀ b, b < 8 → mX7_requireLimit_n (nI (b + 1)) = some () := by decide +kernel
/-- the class's town, surveyed, and the law's arrays -/
def LT (hv L mv ev bu td : Int32) (ks ws pa ca ra ni wi ho q na we hq : Nat → Int32) (nx sz : Int32) : Prop :=
  ∃ (H : Nat) (k : Nat → Nat) (C : Nat → Prop) (N : Nat) (n : Nat → Nat) (W : Nat → Int32), Tn H k C N n W ∧ hv = nI H ∧ Kc ks ws H k W ∧ Sv H k N n W pa ca ra ni wi ho ∧ LI na we hq C W ∧ L = q 0 ∧ mv = q 1 ∧ ev = q 2 ∧ bu = q 3 ∧ td = q 4 ∧ ∃ x m : Nat, x < 4 ∧ m ≤ 4 ∧ nx = nI x ∧ sz = nI m
abbrev TT : Type := Int32 × Int32 × Int32 × Int32 × Int32 × Int32 × (Nat → Int32) × (Nat → Int32) × (Nat → Int32) × (Nat → Int32) × (Nat → Int32) × (Nat → Int32) × (Nat → Int32) × (Nat → Int32) × (Nat → Int32) × Int32 × Int32 × Int32 × Int32 × Int32 × Int32 × Int32 × Int32 × (Nat → Int32) × (Nat → Int32) × Int32 × Int32 × Int32 × Int32 × Int32 × Int32 × (Nat → Int32) × (Nat → Int32) × Int32 × Int32 × Int32 × Int32 × Int32 × Int32 × (Nat → Int32) × (Nat → Int32) × Int32 × Int32 × Int32 × Int32 × Int32 × Int32 × (Nat → Int32) × (Nat → Int32) × (Nat → Int32) × (Nat → Int32) × (Nat → Int32) × (Nat → Int32)
def LTt (s : TT) : Prop := LT s.1 s.2.1 s.2.2.1 s.2.2.2.1 s.2.2.2.2.1 s.2.2.2.2.2.1 s.2.2.2.2.2.2.1 s.2.2.2.2.2.2.2.1 s.2.2.2.2.2.2.2.2.1 s.2.2.2.2.2.2.2.2.2.1 s.2.2.2.2.2.2.2.2.2.2.1 s.2.2.2.2.2.2.2.2.2.2.2.1 s.2.2.2.2.2.2.2.2.2.2.2.2.1 s.2.2.2.2.2.2.2.2.2.2.2.2.2.1 s.2.2.2.2.2.2.2.2.2.2.2.2.2.2.2.2.2.2.2.2.2.2.2.2.2.2.2.2.2.2.2.2.2.2.2.2.2.2.2.2.2.2.2.2.2.2.2.2.2.1 s.2.2.2.2.2.2.2.2.2.2.2.2.2.2.2.2.2.2.2.2.2.2.2.2.2.2.2.2.2.2.2.2.2.2.2.2.2.2.2.2.2.2.2.2.2.2.2.2.2.2.1 s.2.2.2.2.2.2.2.2.2.2.2.2.2.2.2.2.2.2.2.2.2.2.2.2.2.2.2.2.2.2.2.2.2.2.2.2.2.2.2.2.2.2.2.2.2.2.2.2.2.2.2.1 s.2.2.2.2.2.2.2.2.2.2.2.2.2.2.2.2.2.2.2.2.2.2.2.2.2.2.2.2.2.2.2.2.2.2.2.2.2.2.2.2.2.2.2.2.2.2.2.2.2.2.2.2 s.2.2.2.2.2.2.2.2.2.2.2.2.2.2.2.1 s.2.2.2.2.2.2.2.2.2.2.2.2.2.2.2.2.1
theorem cp30 {H : Nat} (hH : H ≤ 193) (a b : Nat → Int32) (L mv ev bu td : Int32) (ks ws : Nat → Int32) : ∃ ks2 ws2, mX4_copyFrom a b (nI H) L mv ev bu td ks ws = some (nI H, L, mv, ev, bu, td, ks2, ws2) := by
  obtain ⟨ks2, e1, -⟩ := copy_c a ks hH
  obtain ⟨ws2, e3, -⟩ := copy_c b ws hH
  refine ⟨ks2, ws2, ?_⟩
  unfold mX4_copyFrom
  rw [e1, Option.bind_some, e3, Option.bind_some]
set_option maxHeartbeats 4000000 in
theorem push30 {x m H : Nat} (hx : x < 4) (hm : m ≤ 4) (hH : H ≤ 193) (vh0 vl0 vm0 ve0 vb0 vt0 : Int32) (vk0 vw0 : Nat → Int32) (vh1 vl1 vm1 ve1 vb1 vt1 : Int32) (vk1 vw1 : Nat → Int32) (vh2 vl2 vm2 ve2 vb2 vt2 : Int32) (vk2 vw2 : Nat → Int32) (vh3 vl3 vm3 ve3 vb3 vt3 : Int32) (vk3 vw3 : Nat → Int32) (L mv ev bu td : Int32) (ks ws : Nat → Int32) :
    ∃ (nx' sz' : Int32) (vh0' vl0' vm0' ve0' vb0' vt0' : Int32) (vk0' vw0' : Nat → Int32) (vh1' vl1' vm1' ve1' vb1' vt1' : Int32) (vk1' vw1' : Nat → Int32) (vh2' vl2' vm2' ve2' vb2' vt2' : Int32) (vk2' vw2' : Nat → Int32) (vh3' vl3' vm3' ve3' vb3' vt3' : Int32) (vk3' vw3' : Nat → Int32), mX6_push (nI x) (nI m) vh0 vl0 vm0 ve0 vb0 vt0 vk0 vw0 vh1 vl1 vm1 ve1 vb1 vt1 vk1 vw1 vh2 vl2 vm2 ve2 vb2 vt2 vk2 vw2 vh3 vl3 vm3 ve3 vb3 vt3 vk3 vw3 (nI H) L mv ev bu td ks ws = some (nx', sz', vh0', vl0', vm0', ve0', vb0', vt0', vk0', vw0', vh1', vl1', vm1', ve1', vb1', vt1', vk1', vw1', vh2', vl2', vm2', ve2', vb2', vt2', vk2', vw2', vh3', vl3', vm3', ve3', vb3', vt3', vk3', vw3') ∧ ∃ x' m' : Nat, x' < 4 ∧ m' ≤ 4 ∧ nx' = nI x' ∧ sz' = nI m' := by
  have esz : ∃ m', m' ≤ 4 ∧ (if (4 : Int32) < nI m + 1 then 4 else nI m + 1) = nI m' := by
    have : m = 0 ∨ m = 1 ∨ m = 2 ∨ m = 3 ∨ m = 4 := by omega
    rcases this with h | h | h | h | h <;> subst h
    · exact ⟨1, by omega, by decide⟩
    · exact ⟨2, by omega, by decide⟩
    · exact ⟨3, by omega, by decide⟩
    · exact ⟨4, by omega, by decide⟩
    · exact ⟨4, by omega, by decide⟩
  obtain ⟨m', hm', em⟩ := esz
  have hx4 : x = 0 ∨ x = 1 ∨ x = 2 ∨ x = 3 := by omega
  rcases hx4 with hx4 | hx4 | hx4 | hx4
  · subst hx4
    obtain ⟨ks2, ws2, c1⟩ := cp30 hH vk0 vw0 L mv ev bu td ks ws
    refine ⟨nI 1, nI m', nI H, L, mv, ev, bu, td, ks2, ws2, vh1, vl1, vm1, ve1, vb1, vt1, vk1, vw1, vh2, vl2, vm2, ve2, vb2, vt2, vk2, vw2, vh3, vl3, vm3, ve3, vb3, vt3, vk3, vw3, ?_, 1, m', by omega, hm', rfl, rfl⟩
    unfold mX6_push mX6_push_0
    rw [c1]
    simp only [Option.bind_some]
    rw [em]
    rfl
  · subst hx4
    obtain ⟨ks2, ws2, c1⟩ := cp30 hH vk1 vw1 L mv ev bu td ks ws
    refine ⟨nI 2, nI m', vh0, vl0, vm0, ve0, vb0, vt0, vk0, vw0, nI H, L, mv, ev, bu, td, ks2, ws2, vh2, vl2, vm2, ve2, vb2, vt2, vk2, vw2, vh3, vl3, vm3, ve3, vb3, vt3, vk3, vw3, ?_, 2, m', by omega, hm', rfl, rfl⟩
    unfold mX6_push mX6_push_1
    rw [c1]
    simp only [Option.bind_some]
    rw [em]
    rfl
  · subst hx4
    obtain ⟨ks2, ws2, c1⟩ := cp30 hH vk2 vw2 L mv ev bu td ks ws
    refine ⟨nI 3, nI m', vh0, vl0, vm0, ve0, vb0, vt0, vk0, vw0, vh1, vl1, vm1, ve1, vb1, vt1, vk1, vw1, nI H, L, mv, ev, bu, td, ks2, ws2, vh3, vl3, vm3, ve3, vb3, vt3, vk3, vw3, ?_, 3, m', by omega, hm', rfl, rfl⟩
    unfold mX6_push mX6_push_2
    rw [c1]
    simp only [Option.bind_some]
    rw [em]
    rfl
  · subst hx4
    obtain ⟨ks2, ws2, c1⟩ := cp30 hH vk3 vw3 L mv ev bu td ks ws
    refine ⟨nI 0, nI m', vh0, vl0, vm0, ve0, vb0, vt0, vk0, vw0, vh1, vl1, vm1, ve1, vb1, vt1, vk1, vw1, vh2, vl2, vm2, ve2, vb2, vt2, vk2, vw2, nI H, L, mv, ev, bu, td, ks2, ws2, ?_, 0, m', by omega, hm', rfl, rfl⟩
    unfold mX6_push mX6_push_3
    rw [c1]
    simp only [Option.bind_some]
    rw [em]
    rfl
theorem j750 {hv L mv ev bu td : Int32} {ks ws pa ca ra ni wi ho q na we hq : Nat → Int32} {nx sz : Int32} (h : LT hv L mv ev bu td ks ws pa ca ra ni wi ho q na we hq nx sz) (lv : Nat → Int32) (vh0 vl0 vm0 ve0 vb0 vt0 : Int32) (vk0 vw0 : Nat → Int32) (vh1 vl1 vm1 ve1 vb1 vt1 : Int32) (vk1 vw1 : Nat → Int32) (vh2 vl2 vm2 ve2 vb2 vt2 : Int32) (vk2 vw2 : Nat → Int32) (vh3 vl3 vm3 ve3 vb3 vt3 : Int32) (vk3 vw3 : Nat → Int32) (tl x6 : Int32) (rec9 : Int32 × TT → Option Unit) :
    mL_law_J750 hv L mv ev bu td ks ws pa ca ra ni wi ho tl q na we hq x6 lv nx sz vh0 vl0 vm0 ve0 vb0 vt0 vk0 vw0 vh1 vl1 vm1 ve1 vb1 vt1 vk1 vw1 vh2 vl2 vm2 ve2 vb2 vt2 vk2 vw2 vh3 vl3 vm3 ve3 vb3 vt3 vk3 vw3 rec9 = rec9 (x6 + 1, hv, L, mv, ev, bu, td, ks, ws, pa, ca, ra, ni, wi, ho, lv, nx, sz, vh0, vl0, vm0, ve0, vb0, vt0, vk0, vw0, vh1, vl1, vm1, ve1, vb1, vt1, vk1, vw1, vh2, vl2, vm2, ve2, vb2, vt2, vk2, vw2, vh3, vl3, vm3, ve3, vb3, vt3, vk3, vw3, q, na, we, hq) := by
  obtain ⟨H, k, C, N, n, W, hT, rfl, hK, hS, hL, rfl, rfl, rfl, rfl, rfl, -⟩ := h
  unfold mL_law_J750
  rw [same_c hK hS hT hL q tl, Option.bind_some, if_neg (by decide), tours_c hK hS hT hL, Option.bind_some, if_neg (by decide)]
set_option maxHeartbeats 8000000 in
theorem turn_k3 {hv L mv ev bu td : Int32} {ks ws pa ca ra ni wi ho lv : Nat → Int32} {nx sz : Int32} {vh0 vl0 vm0 ve0 vb0 vt0 : Int32} {vk0 vw0 : Nat → Int32} {vh1 vl1 vm1 ve1 vb1 vt1 : Int32} {vk1 vw1 : Nat → Int32} {vh2 vl2 vm2 ve2 vb2 vt2 : Int32} {vk2 vw2 : Nat → Int32} {vh3 vl3 vm3 ve3 vb3 vt3 : Int32} {vk3 vw3 : Nat → Int32} {q na we hq : Nat → Int32} (h : LT hv L mv ev bu td ks ws pa ca ra ni wi ho q na we hq nx sz) {n_s : Nat} {f_s : Nat → Int32} (tl x6 : Int32) {v : Int32} (h14 : ¬ 14 ≤ x6) (ec : mL_cell n_s f_s x6 = some v) (e8 : mL_low v 8 = some 3) {b : Nat} (hb : b < 14) (ep : mL_low (v >>> (3 &&& 31)) 14 = some (nI b)) {w : Nat} (hw : w < 100) (ew : mL_low (v >>> (7 &&& 31)) 100 = some (nI w)) (rec9 : Int32 × TT → Option Unit) :
    ∃ s : TT, LTt s ∧ mL_law_L41_S n_s f_s tl rec9 x6 hv L mv ev bu td ks ws pa ca ra ni wi ho lv nx sz vh0 vl0 vm0 ve0 vb0 vt0 vk0 vw0 vh1 vl1 vm1 ve1 vb1 vt1 vk1 vw1 vh2 vl2 vm2 ve2 vb2 vt2 vk2 vw2 vh3 vl3 vm3 ve3 vb3 vt3 vk3 vw3 q na we hq = rec9 (x6 + 1, s) := by
  have h0 := h
  obtain ⟨H, k, C, N, n, W, hT, rfl, hK, hS, hL, rfl, rfl, rfl, rfl, rfl, x, m, hx, hm, rfl, rfl⟩ := h
  have hH := hT.1.le
  have hp : b + 1 < 15 := by omega
  have p0 : b + 1 ≠ 0 := by omega
  have one : (1 : Int32) + nI b = nI (b + 1) := by rw [Int32.add_comm, nI_1]
  have hv := pc_v hp
  by_cases e : na (b + 1) = 1
  · obtain ⟨H', k', C', ks', ws', pa', ca', ra', ni', wi', ho', hq', c, r1, r2, r3, r4, r5, r6⟩ := rem30 hT hK hS hL hp e q (q 4)
    obtain ⟨nx', sz', vh0', vl0', vm0', ve0', vb0', vt0', vk0', vw0', vh1', vl1', vm1', ve1', vb1', vt1', vk1', vw1', vh2', vl2', vm2', ve2', vb2', vt2', vk2', vw2', vh3', vl3', vm3', ve3', vb3', vt3', vk3', vw3', g1, x', m', hx', hm', g2, g3⟩ := push30 hx hm hH vh0 vl0 vm0 ve0 vb0 vt0 vk0 vw0 vh1 vl1 vm1 ve1 vb1 vt1 vk1 vw1 vh2 vl2 vm2 ve2 vb2 vt2 vk2 vw2 vh3 vl3 vm3 ve3 vb3 vt3 vk3 vw3 (q 0) (q 1) (q 2) (q 3) (q 4) ks ws
    have er : mL_remove (nI H) (q 0) (q 1) (q 2) (q 3) (q 4) ks ws pa ca ra ni wi ho (nI x) (nI m) vh0 vl0 vm0 ve0 vb0 vt0 vk0 vw0 vh1 vl1 vm1 ve1 vb1 vt1 vk1 vw1 vh2 vl2 vm2 ve2 vb2 vt2 vk2 vw2 vh3 vl3 vm3 ve3 vb3 vt3 vk3 vw3 (nI (plet (b + 1))) (nI (plen (b + 1))) = some (nI c, nI H', q 4 + nI c, ks', ws', pa', ca', ra', ni', wi', ho', nx', sz', vh0', vl0', vm0', ve0', vb0', vt0', vk0', vw0', vh1', vl1', vm1', ve1', vb1', vt1', vk1', vw1', vh2', vl2', vm2', ve2', vb2', vt2', vk2', vw2', vh3', vl3', vm3', ve3', vb3', vt3', vk3', vw3') := by
      unfold mL_remove mX7_remove mX7_requireInTown
      rw [pc_nam0 _ hp p0, if_pos rfl, pc_of hp, weightOf_c hK hT.1 hT.2.2.1 (pc_31 hp), Option.bind_some, if_neg ((hL.wn hp).mpr e), Option.bind_some, if_pos rfl, g1]
      simp only [Option.bind_some]
      rw [r1]
      simp only [Option.bind_some]
      rfl
    have hLT : LT (nI H') (q 0) (q 1) (q 2) (q 3) (q 4 + nI c) ks' ws' pa' ca' ra' ni' wi' ho' (upd q 4 (q 4 + nI c)) (upd na (b + 1) 0) we hq' nx' sz' :=
      ⟨H', k', C', _, _, _, r3, rfl, r4, r5, r6, (upd_of (by decide)).symm, (upd_of (by decide)).symm, (upd_of (by decide)).symm, (upd_of (by decide)).symm, (upd_at _ _ _).symm, x', m', hx', hm', g2, g3⟩
    refine ⟨(nI H', q 0, q 1, q 2, q 3, q 4 + nI c, ks', ws', pa', ca', ra', ni', wi', ho', lv, nx', sz', vh0', vl0', vm0', ve0', vb0', vt0', vk0', vw0', vh1', vl1', vm1', ve1', vb1', vt1', vk1', vw1', vh2', vl2', vm2', ve2', vb2', vt2', vk2', vw2', vh3', vl3', vm3', ve3', vb3', vt3', vk3', vw3', upd q 4 (q 4 + nI c), upd na (b + 1) 0, we, hq'), hLT, ?_⟩
    unfold mL_law_L41_S
    rw [if_neg h14, ec, Option.bind_some, e8, Option.bind_some, ep, Option.bind_some, ew, Option.bind_some, if_pos (show (3 : Int32) ≤ 3 by decide), if_pos rfl, one, rd15 na hp, Option.bind_some, if_neg (show ¬ na (b + 1) = 0 by rw [e]; decide), r2]
    simp only [Option.bind_some]
    rw [pc_let0 _ hp, Option.bind_some, pc_len0 _ hp, er]
    simp only [Option.bind_some]
    rw [if_pos trivial]
    exact j750 hLT _ _ _ _ _ _ _ _ _ _ _ _ _ _ _ _ _ _ _ _ _ _ _ _ _ _ _ _ _ _ _ _ _ _ _ _
  · have er : mL_remove (nI H) (q 0) (q 1) (q 2) (q 3) (q 4) ks ws pa ca ra ni wi ho (nI x) (nI m) vh0 vl0 vm0 ve0 vb0 vt0 vk0 vw0 vh1 vl1 vm1 ve1 vb1 vt1 vk1 vw1 vh2 vl2 vm2 ve2 vb2 vt2 vk2 vw2 vh3 vl3 vm3 ve3 vb3 vt3 vk3 vw3 (nI (plet (b + 1))) (nI (plen (b + 1))) = some (-2, nI H, q 4, ks, ws, pa, ca, ra, ni, wi, ho, nI x, nI m, vh0, vl0, vm0, ve0, vb0, vt0, vk0, vw0, vh1, vl1, vm1, ve1, vb1, vt1, vk1, vw1, vh2, vl2, vm2, ve2, vb2, vt2, vk2, vw2, vh3, vl3, vm3, ve3, vb3, vt3, vk3, vw3) := by
      have hw1 : W (pcd (b + 1)) = -1 := by rw [(hL.1 _ hp).2.2.2.1, if_neg e]
      unfold mL_remove mX7_remove mX7_requireInTown
      rw [pc_nam0 _ hp p0, if_pos rfl, pc_of hp, weightOf_c hK hT.1 hT.2.2.1 (pc_31 hp), Option.bind_some, if_pos hw1, Option.bind_some, if_neg (by decide)]
      rfl
    refine ⟨(nI H, q 0, q 1, q 2, q 3, q 4, ks, ws, pa, ca, ra, ni, wi, ho, lv, nI x, nI m, vh0, vl0, vm0, ve0, vb0, vt0, vk0, vw0, vh1, vl1, vm1, ve1, vb1, vt1, vk1, vw1, vh2, vl2, vm2, ve2, vb2, vt2, vk2, vw2, vh3, vl3, vm3, ve3, vb3, vt3, vk3, vw3, q, na, we, hq), h0, ?_⟩
    unfold mL_law_L41_S
    rw [if_neg h14, ec, Option.bind_some, e8, Option.bind_some, ep, Option.bind_some, ew, Option.bind_some, if_pos (show (3 : Int32) ≤ 3 by decide), if_pos rfl, one, rd15 na hp, Option.bind_some, if_pos (na0 hL hp e), pc_let0 _ hp, Option.bind_some, pc_len0 _ hp, er]
    simp only [Option.bind_some]
    rw [if_pos trivial]
    exact j750 h0 _ _ _ _ _ _ _ _ _ _ _ _ _ _ _ _ _ _ _ _ _ _ _ _ _ _ _ _ _ _ _ _ _ _ _ _
set_option maxHeartbeats 8000000 in
theorem turn_k0 {hv L mv ev bu td : Int32} {ks ws pa ca ra ni wi ho lv : Nat → Int32} {nx sz : Int32} {vh0 vl0 vm0 ve0 vb0 vt0 : Int32} {vk0 vw0 : Nat → Int32} {vh1 vl1 vm1 ve1 vb1 vt1 : Int32} {vk1 vw1 : Nat → Int32} {vh2 vl2 vm2 ve2 vb2 vt2 : Int32} {vk2 vw2 : Nat → Int32} {vh3 vl3 vm3 ve3 vb3 vt3 : Int32} {vk3 vw3 : Nat → Int32} {q na we hq : Nat → Int32} (h : LT hv L mv ev bu td ks ws pa ca ra ni wi ho q na we hq nx sz) {n_s : Nat} {f_s : Nat → Int32} (tl x6 : Int32) {v : Int32} (h14 : ¬ 14 ≤ x6) (ec : mL_cell n_s f_s x6 = some v) {a : Nat} (ha : a < 3) (e8 : mL_low v 8 = some (nI a)) {b : Nat} (hb : b < 14) (ep : mL_low (v >>> (3 &&& 31)) 14 = some (nI b)) {w : Nat} (hw : w < 100) (ew : mL_low (v >>> (7 &&& 31)) 100 = some (nI w)) (rec9 : Int32 × TT → Option Unit) :
    ∃ s : TT, LTt s ∧ mL_law_L41_S n_s f_s tl rec9 x6 hv L mv ev bu td ks ws pa ca ra ni wi ho lv nx sz vh0 vl0 vm0 ve0 vb0 vt0 vk0 vw0 vh1 vl1 vm1 ve1 vb1 vt1 vk1 vw1 vh2 vl2 vm2 ve2 vb2 vt2 vk2 vw2 vh3 vl3 vm3 ve3 vb3 vt3 vk3 vw3 q na we hq = rec9 (x6 + 1, s) := by
  have h0 := h
  obtain ⟨H, k, C, N, n, W, hT, rfl, hK, hS, hL, rfl, rfl, rfl, rfl, rfl, x, m, hx, hm, rfl, rfl⟩ := h
  have hH := hT.1.le
  have hp : b + 1 < 15 := by omega
  have p0 : b + 1 ≠ 0 := by omega
  have one : (1 : Int32) + nI b = nI (b + 1) := by rw [Int32.add_comm, nI_1]
  have hv := pc_v hp
  have hN : N < 24 := by
    have := hT.2.1.1.card pcd 15 (fun y hy => by
      obtain ⟨r, hr, er⟩ := hL.2 _ (hT.2.2.1 y hy)
      exact ⟨r, hr, er.symm⟩)
    omega
  have hge : ¬ (3 : Int32) ≤ nI a := nI_ge (b := 3) ha (by decide)
  have hln : 0 < lnN (pcd (b + 1)) := by
    rw [pc_ln hp]
    exact (pc_cut0 _ hp p0).2.2
  have hnw := cnew_c hK hT hv
  by_cases e : na (b + 1) = 1
  · have hf : mX7_housesFor_n (nI H) ks ws (nI (plet (b + 1))) (nI (plen (b + 1))) = some (-1) := by
      unfold mX7_housesFor_n
      rw [pc_nam _ hp p0, Option.bind_some, pc_of hp, hnw.1 ((hL.wn hp).mpr e), Option.bind_some]
    have er : mL_add (nI H) (q 0) (q 1) (q 2) (q 3) (q 4) ks ws pa ca ra ni wi ho (nI x) (nI m) vh0 vl0 vm0 ve0 vb0 vt0 vk0 vw0 vh1 vl1 vm1 ve1 vb1 vt1 vk1 vw1 vh2 vl2 vm2 ve2 vb2 vt2 vk2 vw2 vh3 vl3 vm3 ve3 vb3 vt3 vk3 vw3 (nI (plet (b + 1))) (nI (plen (b + 1))) (nI w) = some (-2, nI H, q 2, q 3, ks, ws, pa, ca, ra, ni, wi, ho, nI x, nI m, vh0, vl0, vm0, ve0, vb0, vt0, vk0, vw0, vh1, vl1, vm1, ve1, vb1, vt1, vk1, vw1, vh2, vl2, vm2, ve2, vb2, vt2, vk2, vw2, vh3, vl3, vm3, ve3, vb3, vt3, vk3, vw3) := by
      unfold mL_add mX7_add mX5_canTakeName
      rw [pc_nam0 _ hp p0, if_pos rfl, wt0 w hw, if_pos rfl, pc_of hp, weightOf_c hK hT.1 hT.2.2.1 (pc_31 hp), Option.bind_some, if_neg ((hL.wn hp).mpr e), Option.bind_some, if_pos rfl]
      rfl
    have ex : (if na (b + 1) = 1 then (1 : Int32) else 0) = 1 := if_pos e
    refine ⟨(nI H, q 0, q 1, q 2, q 3, q 4, ks, ws, pa, ca, ra, ni, wi, ho, lv, nI x, nI m, vh0, vl0, vm0, ve0, vb0, vt0, vk0, vw0, vh1, vl1, vm1, ve1, vb1, vt1, vk1, vw1, vh2, vl2, vm2, ve2, vb2, vt2, vk2, vw2, vh3, vl3, vm3, ve3, vb3, vt3, vk3, vw3, q, na, we, hq), h0, ?_⟩
    unfold mL_law_L41_S
    rw [if_neg h14, ec, Option.bind_some, e8, Option.bind_some, ep, Option.bind_some, ew, Option.bind_some, if_neg hge, one, pc_let0 _ hp, Option.bind_some, pc_len0 _ hp, hf, Option.bind_some, rd15 na hp, Option.bind_some, ex, if_neg (show ¬ (1 : Int32) = 0 by decide)]
    unfold mL_law_J161
    rw [pc_let0 _ hp, Option.bind_some, pc_len0 _ hp, er]
    simp only [Option.bind_some]
    rw [if_pos trivial, if_neg (show ¬ (1 : Int32) = 0 by decide)]
    rw [if_pos rfl]
    exact j750 h0 _ _ _ _ _ _ _ _ _ _ _ _ _ _ _ _ _ _ _ _ _ _ _ _ _ _ _ _ _ _ _ _ _ _ _ _
  · have hw1 : W (pcd (b + 1)) = -1 := by rw [(hL.1 _ hp).2.2.2.1, if_neg e]
    obtain ⟨q', hq', ad, a0, a1, a4, a3, a2y, a2n, aL⟩ := adds30 hL hT hp p0 e (show w ≤ 99 by omega) q
    obtain ⟨H', k', ks', ws', pa', ca', ra', ni', wi', ho', c1, c2, c3, c4, c5⟩ := ctake_c hT hK hv hln hw1 hN (w := nI w) (q_neg (by omega)) (q 2) (q 3) pa ca ra ni wi ho
    obtain ⟨nx', sz', vh0', vl0', vm0', ve0', vb0', vt0', vk0', vw0', vh1', vl1', vm1', ve1', vb1', vt1', vk1', vw1', vh2', vl2', vm2', ve2', vb2', vt2', vk2', vw2', vh3', vl3', vm3', ve3', vb3', vt3', vk3', vw3', g1, x', m', hx', hm', g2, g3⟩ := push30 hx hm hH vh0 vl0 vm0 ve0 vb0 vt0 vk0 vw0 vh1 vl1 vm1 ve1 vb1 vt1 vk1 vw1 vh2 vl2 vm2 ve2 vb2 vt2 vk2 vw2 vh3 vl3 vm3 ve3 vb3 vt3 vk3 vw3 (q 0) (q 1) (q 2) (q 3) (q 4) ks ws
    have hkn := knl_le (N := N) (n := n) (pcd (b + 1)) (lnN (pcd (b + 1)))
    have key : ∃ d : Int32, mX7_housesFor_n (nI H) ks ws (nI (plet (b + 1))) (nI (plen (b + 1))) = some (nI (lnN (pcd (b + 1)) - knl N n (pcd (b + 1)) (lnN (pcd (b + 1)))) + d) ∧ q' 2 = q 2 + d ∧
        mX5_takeName (nI H) (q 2) (q 3) ks ws pa ca ra ni wi ho (nI (pcd (b + 1))) (nI w) = some (nI (plc N n (pcd (b + 1))), nI H', q' 2, q' 3, ks', ws', pa', ca', ra', ni', wi', ho') := by
      unfold mX7_housesFor_n
      rw [pc_nam _ hp p0, Option.bind_some, pc_of hp, a3]
      by_cases hc : C (ctN (pcd (b + 1)) (knl N n (pcd (b + 1)) (lnN (pcd (b + 1)))))
      · refine ⟨0, ?_, ?_, ?_⟩
        · rw [hnw.2.1 hw1 hc, Option.bind_some, q_sub hkn]
        · rw [a2y hc, Int32.add_zero]
        · rw [c1 hc, a2y hc]
      · refine ⟨1, ?_, ?_, ?_⟩
        · rw [hnw.2.2 hw1 hc, Option.bind_some, q_sub hkn]
        · rw [a2n hc]
        · rw [c2 hc, a2n hc]
    obtain ⟨d, hf, d2, d3⟩ := key
    have er : mL_add (nI H) (q 0) (q 1) (q 2) (q 3) (q 4) ks ws pa ca ra ni wi ho (nI x) (nI m) vh0 vl0 vm0 ve0 vb0 vt0 vk0 vw0 vh1 vl1 vm1 ve1 vb1 vt1 vk1 vw1 vh2 vl2 vm2 ve2 vb2 vt2 vk2 vw2 vh3 vl3 vm3 ve3 vb3 vt3 vk3 vw3 (nI (plet (b + 1))) (nI (plen (b + 1))) (nI w) = some (nI (plc N n (pcd (b + 1))), nI H', q' 2, q' 3, ks', ws', pa', ca', ra', ni', wi', ho', nx', sz', vh0', vl0', vm0', ve0', vb0', vt0', vk0', vw0', vh1', vl1', vm1', ve1', vb1', vt1', vk1', vw1', vh2', vl2', vm2', ve2', vb2', vt2', vk2', vw2', vh3', vl3', vm3', ve3', vb3', vt3', vk3', vw3') := by
      have hn24 : ¬ (24 : Int32) ≤ nI N := nI_ge (b := 24) hN (by decide)
      unfold mL_add mX7_add mX5_canTakeName
      rw [pc_nam0 _ hp p0, if_pos rfl, wt0 w hw, if_pos rfl, pc_of hp, weightOf_c hK hT.1 hT.2.2.1 (pc_31 hp), Option.bind_some, if_pos hw1, cnames_c hS hT.1 hT.2.1, if_neg hn24, Option.bind_some, if_neg (show ¬ (1 : Int32) = 0 by decide), g1]
      simp only [Option.bind_some]
      rw [d3]
      simp only [Option.bind_some]
      rfl
    have hLT : LT (nI H') (q 0) (q 1) (q' 2) (q' 3) (q 4) ks' ws' pa' ca' ra' ni' wi' ho' q' (upd na (b + 1) 1) (upd we (b + 1) (nI w)) hq' nx' sz' :=
      ⟨H', k', _, _, _, _, c3, rfl, c4, c5, aL, a0.symm, a1.symm, rfl, rfl, a4.symm, x', m', hx', hm', g2, g3⟩
    have ex : (if na (b + 1) = 1 then (1 : Int32) else 0) = 0 := if_neg e
    have ear : nI (lnN (pcd (b + 1)) - knl N n (pcd (b + 1)) (lnN (pcd (b + 1)))) + d = q' 2 + q' 3 - (q 2 + q 3) := by
      rw [d2, a3]
      generalize nI (lnN (pcd (b + 1)) - knl N n (pcd (b + 1)) (lnN (pcd (b + 1)))) = z
      generalize q 2 = y2
      generalize q 3 = y3
      have e1 : y2 + d + (y3 + z) = (z + d) + (y2 + y3) := by ac_rfl
      rw [e1, Int32.add_sub_cancel]
    refine ⟨(nI H', q 0, q 1, q' 2, q' 3, q 4, ks', ws', pa', ca', ra', ni', wi', ho', lv, nx', sz', vh0', vl0', vm0', ve0', vb0', vt0', vk0', vw0', vh1', vl1', vm1', ve1', vb1', vt1', vk1', vw1', vh2', vl2', vm2', ve2', vb2', vt2', vk2', vw2', vh3', vl3', vm3', ve3', vb3', vt3', vk3', vw3', q', upd na (b + 1) 1, upd we (b + 1) (nI w), hq'), hLT, ?_⟩
    unfold mL_law_L41_S
    rw [if_neg h14, ec, Option.bind_some, e8, Option.bind_some, ep, Option.bind_some, ew, Option.bind_some, if_neg hge, one, pc_let0 _ hp, Option.bind_some, pc_len0 _ hp, hf, Option.bind_some, rd15 na hp, Option.bind_some, ex, if_pos (show (0 : Int32) = 0 from rfl), ad]
    simp only [Option.bind_some]
    unfold mL_law_J161
    rw [pc_let0 _ hp, Option.bind_some, pc_len0 _ hp, er]
    simp only [Option.bind_some]
    rw [if_pos trivial, if_pos trivial, if_pos ear]
    exact j750 hLT _ _ _ _ _ _ _ _ _ _ _ _ _ _ _ _ _ _ _ _ _ _ _ _ _ _ _ _ _ _ _ _ _ _ _ _
theorem a_move {na we hq : Nat → Int32} {H : Nat} {k : Nat → Nat} {W : Nat → Int32} {C : Nat → Prop} {N : Nat} {n : Nat → Nat} (hL : LI na we hq C W) (hT : Tn H k C N n W) {p : Nat} (hp : p < 15) (h0 : p ≠ 0) (e : hq p = 1) {L : Int32} (hw : why L H k W (plc H k (pcd p)) = 0) :
    ∃ q9, q9 < 15 ∧ mL_child hq (nI p) = some (nI q9) ∧ parP hq p < 15 ∧ mL_parent hq (nI p) = some (nI (parP hq p)) ∧ mL_length (nI q9) - mL_length (nI (parP hq p)) = nI (lb k (plc H k (pcd p)) + lb k (plc H k (pcd p) + 1)) := by
  have h := hT.1
  obtain ⟨i1, i2⟩ := h.ixe (((hL.1 p hp).2.2.1).mp e)
  obtain ⟨w0, w1, w2, w3⟩ := why_0 hw
  obtain ⟨x1, x2⟩ := hT.nx i1 w0 w1
  obtain ⟨q9, hq15, eq, ec⟩ := a_child hL h hp e ⟨x1, x2⟩ w2
  obtain ⟨b1, b2, b3⟩ := par_pr hL h hp h0 e
  refine ⟨q9, hq15, ec, b2, lpar_c hq (hL.hn0 h) hp h0, ?_⟩
  rw [pc_len0 q9 hq15, pc_len0 _ b2]
  have l1 := h.lbp i1 (by omega)
  have l2 := h.lbp x1 (by omega)
  have hl : plen q9 - plen (parP hq p) = lb k (plc H k (pcd p)) + lb k (plc H k (pcd p) + 1) := by
    unfold lb
    rw [x2] at l2 ⊢
    rw [← pc_ln hq15, ← pc_ln b2, ← eq, ← b1]
    omega
  have hle : plen (parP hq p) ≤ plen q9 := by
    rw [x2] at l2
    rw [← pc_ln hq15, ← pc_ln b2, ← eq, ← b1]
    omega
  rw [q_sub hle, hl]
set_option maxHeartbeats 8000000 in
theorem turn_k4 {hv L mv ev bu td : Int32} {ks ws pa ca ra ni wi ho lv : Nat → Int32} {nx sz : Int32} {vh0 vl0 vm0 ve0 vb0 vt0 : Int32} {vk0 vw0 : Nat → Int32} {vh1 vl1 vm1 ve1 vb1 vt1 : Int32} {vk1 vw1 : Nat → Int32} {vh2 vl2 vm2 ve2 vb2 vt2 : Int32} {vk2 vw2 : Nat → Int32} {vh3 vl3 vm3 ve3 vb3 vt3 : Int32} {vk3 vw3 : Nat → Int32} {q na we hq : Nat → Int32} (h : LT hv L mv ev bu td ks ws pa ca ra ni wi ho q na we hq nx sz) {n_s : Nat} {f_s : Nat → Int32} (tl x6 : Int32) {v : Int32} (h14 : ¬ 14 ≤ x6) (ec : mL_cell n_s f_s x6 = some v) (e8 : mL_low v 8 = some 4) {b : Nat} (hb : b < 14) (ep : mL_low (v >>> (3 &&& 31)) 14 = some (nI b)) {w : Nat} (hw : w < 100) (ew : mL_low (v >>> (7 &&& 31)) 100 = some (nI w)) (rec9 : Int32 × TT → Option Unit) :
    ∃ s : TT, LTt s ∧ mL_law_L41_S n_s f_s tl rec9 x6 hv L mv ev bu td ks ws pa ca ra ni wi ho lv nx sz vh0 vl0 vm0 ve0 vb0 vt0 vk0 vw0 vh1 vl1 vm1 ve1 vb1 vt1 vk1 vw1 vh2 vl2 vm2 ve2 vb2 vt2 vk2 vw2 vh3 vl3 vm3 ve3 vb3 vt3 vk3 vw3 q na we hq = rec9 (x6 + 1, s) := by
  have h0 := h
  obtain ⟨H, k, C, N, n, W, hT, rfl, hK, hS, hL, rfl, rfl, rfl, rfl, rfl, x, m, hx, hm, rfl, rfl⟩ := h
  have hH := hT.1.le
  have hp : b + 1 < 15 := by omega
  have p0 : b + 1 ≠ 0 := by omega
  have one : (1 : Int32) + nI b = nI (b + 1) := by rw [Int32.add_comm, nI_1]
  have hv := pc_v hp
  have refused : mX5_canMove (nI H) (q 0) ks ws pa ca (nI (pcd (b + 1))) = some 0 → mL_moveIn (nI H) (q 0) (q 1) (q 2) (q 3) (q 4) ks ws pa ca ra ni wi ho (nI x) (nI m) vh0 vl0 vm0 ve0 vb0 vt0 vk0 vw0 vh1 vl1 vm1 ve1 vb1 vt1 vk1 vw1 vh2 vl2 vm2 ve2 vb2 vt2 vk2 vw2 vh3 vl3 vm3 ve3 vb3 vt3 vk3 vw3 (nI (plet (b + 1))) (nI (plen (b + 1))) = some (-2, nI H, q 1, ks, ws, pa, ca, ra, ni, wi, ho, nI x, nI m, vh0, vl0, vm0, ve0, vb0, vt0, vk0, vw0, vh1, vl1, vm1, ve1, vb1, vt1, vk1, vw1, vh2, vl2, vm2, ve2, vb2, vt2, vk2, vw2, vh3, vl3, vm3, ve3, vb3, vt3, vk3, vw3) := by
    intro hcm
    unfold mL_moveIn mX7_moveIn
    rw [pc_pre0 _ hp, if_pos rfl, pc_of hp, hcm, Option.bind_some, if_pos rfl]
    rfl
  by_cases e : hq (b + 1) = 1
  · have cx := ((hL.1 _ hp).2.2.1).mp e
    obtain ⟨i1, i2⟩ := hT.1.ixe cx
    have ecm : mX5_canMove (nI H) (q 0) ks ws pa ca (nI (pcd (b + 1))) = some (if why (q 0) H k W (plc H k (pcd (b + 1))) = 0 then 1 else 0) := by
      unfold mX5_canMove
      rw [(index_c hK hT.1 (pc_31 hp)).1 cx, Option.bind_some, if_neg (q_neg (by omega)), creason_c hK hS hT i1]
    by_cases hw0 : why (q 0) H k W (plc H k (pcd (b + 1))) = 0
    · obtain ⟨w0, w1, w2, w3⟩ := why_0 hw0
      obtain ⟨q9, y1, y2, y3, y4, y5⟩ := a_move hL hT hp p0 e hw0
      obtain ⟨ks', ws', pa', ca', ra', ni', wi', ho', c1, c2, c3⟩ := cmove_c hT hK hS cx (q 0) hw0 (q 1)
      obtain ⟨nx', sz', vh0', vl0', vm0', ve0', vb0', vt0', vk0', vw0', vh1', vl1', vm1', ve1', vb1', vt1', vk1', vw1', vh2', vl2', vm2', ve2', vb2', vt2', vk2', vw2', vh3', vl3', vm3', ve3', vb3', vt3', vk3', vw3', g1, x', m', hx', hm', g2, g3⟩ := push30 hx hm hH vh0 vl0 vm0 ve0 vb0 vt0 vk0 vw0 vh1 vl1 vm1 ve1 vb1 vt1 vk1 vw1 vh2 vl2 vm2 ve2 vb2 vt2 vk2 vw2 vh3 vl3 vm3 ve3 vb3 vt3 vk3 vw3 (q 0) (q 1) (q 2) (q 3) (q 4) ks ws
      have er : mL_moveIn (nI H) (q 0) (q 1) (q 2) (q 3) (q 4) ks ws pa ca ra ni wi ho (nI x) (nI m) vh0 vl0 vm0 ve0 vb0 vt0 vk0 vw0 vh1 vl1 vm1 ve1 vb1 vt1 vk1 vw1 vh2 vl2 vm2 ve2 vb2 vt2 vk2 vw2 vh3 vl3 vm3 ve3 vb3 vt3 vk3 vw3 (nI (plet (b + 1))) (nI (plen (b + 1))) = some (nI (lb k (plc H k (pcd (b + 1))) + lb k (plc H k (pcd (b + 1)) + 1)), nI (H - 1), q 1 + 1, ks', ws', pa', ca', ra', ni', wi', ho', nx', sz', vh0', vl0', vm0', ve0', vb0', vt0', vk0', vw0', vh1', vl1', vm1', ve1', vb1', vt1', vk1', vw1', vh2', vl2', vm2', ve2', vb2', vt2', vk2', vw2', vh3', vl3', vm3', ve3', vb3', vt3', vk3', vw3') := by
        unfold mL_moveIn mX7_moveIn
        rw [pc_pre0 _ hp, if_pos rfl, pc_of hp, ecm, if_pos hw0, Option.bind_some, if_neg (show ¬ (1 : Int32) = 0 by decide), g1]
        simp only [Option.bind_some]
        rw [c1]
        simp only [Option.bind_some]
        rfl
      have hLT : LT (nI (H - 1)) (q 0) (q 1 + 1) (q 2) (q 3) (q 4) ks' ws' pa' ca' ra' ni' wi' ho' (upd q 1 (q 1 + 1)) na we (upd hq (b + 1) 0) nx' sz' :=
        ⟨H - 1, delN k (plc H k (pcd (b + 1))), _, N, n, W, hT.drop i1 w0 w1 w2, rfl, c2, c3, hL.delH hp i2, (upd_of (by decide)).symm, (upd_at _ _ _).symm, (upd_of (by decide)).symm, (upd_of (by decide)).symm, (upd_of (by decide)).symm, x', m', hx', hm', g2, g3⟩
      refine ⟨(nI (H - 1), q 0, q 1 + 1, q 2, q 3, q 4, ks', ws', pa', ca', ra', ni', wi', ho', lv, nx', sz', vh0', vl0', vm0', ve0', vb0', vt0', vk0', vw0', vh1', vl1', vm1', ve1', vb1', vt1', vk1', vw1', vh2', vl2', vm2', ve2', vb2', vt2', vk2', vw2', vh3', vl3', vm3', ve3', vb3', vt3', vk3', vw3', upd q 1 (q 1 + 1), na, we, upd hq (b + 1) 0), hLT, ?_⟩
      unfold mL_law_L41_S
      rw [if_neg h14, ec, Option.bind_some, e8, Option.bind_some, ep, Option.bind_some, ew, Option.bind_some, if_pos (show (3 : Int32) ≤ 4 by decide), if_neg (show ¬ (4 : Int32) = 3 by decide), if_pos rfl, one, rd15 hq hp, Option.bind_some, if_pos e, a_why hL hT hp e q, Option.bind_some, hw0, if_pos (show (0 : Int32) = 0 from rfl), if_neg (show ¬ (1 : Int32) = 0 by decide), y2, Option.bind_some, y4, Option.bind_some, pc_let0 _ hp, Option.bind_some, pc_len0 _ hp, er]
      simp only [Option.bind_some]
      rw [if_pos y5.symm, if_neg (show ¬ (1 : Int32) = 0 by decide), wr15 hq 0 hp, Option.bind_some]
      exact j750 hLT _ _ _ _ _ _ _ _ _ _ _ _ _ _ _ _ _ _ _ _ _ _ _ _ _ _ _ _ _ _ _ _ _ _ _ _
    · have er := refused (by rw [ecm, if_neg hw0])
      refine ⟨(nI H, q 0, q 1, q 2, q 3, q 4, ks, ws, pa, ca, ra, ni, wi, ho, lv, nI x, nI m, vh0, vl0, vm0, ve0, vb0, vt0, vk0, vw0, vh1, vl1, vm1, ve1, vb1, vt1, vk1, vw1, vh2, vl2, vm2, ve2, vb2, vt2, vk2, vw2, vh3, vl3, vm3, ve3, vb3, vt3, vk3, vw3, q, na, we, hq), h0, ?_⟩
      unfold mL_law_L41_S
      rw [if_neg h14, ec, Option.bind_some, e8, Option.bind_some, ep, Option.bind_some, ew, Option.bind_some, if_pos (show (3 : Int32) ≤ 4 by decide), if_neg (show ¬ (4 : Int32) = 3 by decide), if_pos rfl, one, rd15 hq hp, Option.bind_some, if_pos e, a_why hL hT hp e q, Option.bind_some, if_neg hw0, if_pos (show (0 : Int32) = 0 from rfl), pc_let0 _ hp, Option.bind_some, pc_len0 _ hp, er]
      simp only [Option.bind_some]
      rw [if_pos trivial, if_pos trivial]
      exact j750 h0 _ _ _ _ _ _ _ _ _ _ _ _ _ _ _ _ _ _ _ _ _ _ _ _ _ _ _ _ _ _ _ _ _ _ _ _
  · have er := refused (by
      unfold mX5_canMove
      rw [(index_c hK hT.1 (pc_31 hp)).2 (fun hc => e (((hL.1 _ hp).2.2.1).mpr hc)), Option.bind_some, if_pos rfl])
    refine ⟨(nI H, q 0, q 1, q 2, q 3, q 4, ks, ws, pa, ca, ra, ni, wi, ho, lv, nI x, nI m, vh0, vl0, vm0, ve0, vb0, vt0, vk0, vw0, vh1, vl1, vm1, ve1, vb1, vt1, vk1, vw1, vh2, vl2, vm2, ve2, vb2, vt2, vk2, vw2, vh3, vl3, vm3, ve3, vb3, vt3, vk3, vw3, q, na, we, hq), h0, ?_⟩
    unfold mL_law_L41_S
    rw [if_neg h14, ec, Option.bind_some, e8, Option.bind_some, ep, Option.bind_some, ew, Option.bind_some, if_pos (show (3 : Int32) ≤ 4 by decide), if_neg (show ¬ (4 : Int32) = 3 by decide), if_pos rfl, one, rd15 hq hp, Option.bind_some, if_neg e, pc_let0 _ hp, Option.bind_some, pc_len0 _ hp, er]
    simp only [Option.bind_some]
    rw [if_pos trivial]
    exact j750 h0 _ _ _ _ _ _ _ _ _ _ _ _ _ _ _ _ _ _ _ _ _ _ _ _ _ _ _ _ _ _ _ _ _ _ _ _
theorem ev_ch {H : Nat} {k : Nat → Nat} {W : Nat → Int32} {C : Nat → Prop} {N : Nat} {n : Nat → Nat} (hT : Tn H k C N n W) {x : Nat} (hv : VN x) (hx : ¬ C x) {j : Nat} (hj : j < H) (hb : bgN x (k j)) : ch (H + 1) (insN k (plc H k x) x) (plc (H + 1) (insN k (plc H k x) x) x) ≤ 1 := by
  have hT' := hT.evict hv hx (hT.1.c hj) hb
  obtain ⟨pl1, pl2⟩ := hT.1.en.place x
  have hpj : plc H k x ≤ j := by
    rcases Nat.lt_or_ge j (plc H k x) with h | h
    · exact absurd (pl1 j h) (Nat.not_lt.mpr hb.1)
    · exact h
  have hp : plc H k x < H := by omega
  have hb2 : bgN x (k (plc H k x)) := bg_mid hb (pl2 _ (Nat.le_refl _) hp) ((hT.1.en.le hp hj).mpr hpj)
  have cf : C (k (plc H k x)) := hT.1.c hp
  have hfx : k (plc H k x) ≠ x := fun e => hx (by rw [← e]; exact cf)
  have key : ∀ y, C y → bgN x y → bgN (k (plc H k x)) y := fun y h1 h2 => hT.fst hv hp hb2 h1 h2
  obtain ⟨g, hg, eg⟩ := hT'.1.en.2.2 (k (plc H k x)) (Or.inl cf)
  obtain ⟨i1, i2⟩ := hT'.1.ixe (Or.inr rfl : (fun y => C y ∨ y = x) x)
  generalize insN k (plc H k x) x = k' at hT' eg i1 i2 ⊢
  generalize plc (H + 1) k' x = i' at i1 i2 ⊢
  have u : ∀ c, c < H + 1 → 0 < c → pr k' c = i' → c = g := by
    intro c hc c0 e
    have hb3 : bgN x (k' c) := by
      have := hT'.1.prb hc
      rw [e, i2] at this
      exact this
    have hne : k' c ≠ x := fun e2 => by
      have h1 := hT'.1.en.inj hc i1 (e2.trans i2.symm)
      have h2 := pr_lt k' c0
      omega
    have hC : C (k' c) := by
      rcases hT'.1.c hc with h | h
      · exact h
      · exact absurd h hne
    have hb4 := key _ hC hb3
    rw [← eg] at hb4
    rcases Nat.lt_or_ge g c with h | h
    · have h5 := (hT'.1.pri hc h).mp hb4
      rw [e, i2, eg] at h5
      exact absurd (Nat.le_antisymm h5.1 hb2.1) hfx
    · have := hT'.1.ij hg hc hb4
      omega
  unfold ch
  by_cases c0 : 0 < g ∧ pr k' g = i'
  · exact Nat.le_of_eq (cn_one hg (by rw [Bool.and_eq_true, decide_eq_true_iff, decide_eq_true_iff]; exact c0) (fun c hc hn => Bool.eq_false_iff.mpr (fun h => by
      rw [Bool.and_eq_true, decide_eq_true_iff, decide_eq_true_iff] at h
      exact hn (u c hc h.1 h.2))))
  · have : cn (fun j => decide (0 < j) && decide (pr k' j = i')) (H + 1) = 0 := cn_false (fun c hc => Bool.eq_false_iff.mpr (fun h => by
      rw [Bool.and_eq_true, decide_eq_true_iff, decide_eq_true_iff] at h
      have e := u c hc h.1 h.2
      rw [e] at h
      exact c0 h))
    omega
set_option maxHeartbeats 8000000 in
theorem turn_k5 {hv L mv ev bu td : Int32} {ks ws pa ca ra ni wi ho lv : Nat → Int32} {nx sz : Int32} {vh0 vl0 vm0 ve0 vb0 vt0 : Int32} {vk0 vw0 : Nat → Int32} {vh1 vl1 vm1 ve1 vb1 vt1 : Int32} {vk1 vw1 : Nat → Int32} {vh2 vl2 vm2 ve2 vb2 vt2 : Int32} {vk2 vw2 : Nat → Int32} {vh3 vl3 vm3 ve3 vb3 vt3 : Int32} {vk3 vw3 : Nat → Int32} {q na we hq : Nat → Int32} (h : LT hv L mv ev bu td ks ws pa ca ra ni wi ho q na we hq nx sz) {n_s : Nat} {f_s : Nat → Int32} (tl x6 : Int32) {v : Int32} (h14 : ¬ 14 ≤ x6) (ec : mL_cell n_s f_s x6 = some v) (e8 : mL_low v 8 = some 5) {b : Nat} (hb : b < 14) (ep : mL_low (v >>> (3 &&& 31)) 14 = some (nI b)) {w : Nat} (hw : w < 100) (ew : mL_low (v >>> (7 &&& 31)) 100 = some (nI w)) (rec9 : Int32 × TT → Option Unit) :
    ∃ s : TT, LTt s ∧ mL_law_L41_S n_s f_s tl rec9 x6 hv L mv ev bu td ks ws pa ca ra ni wi ho lv nx sz vh0 vl0 vm0 ve0 vb0 vt0 vk0 vw0 vh1 vl1 vm1 ve1 vb1 vt1 vk1 vw1 vh2 vl2 vm2 ve2 vb2 vt2 vk2 vw2 vh3 vl3 vm3 ve3 vb3 vt3 vk3 vw3 q na we hq = rec9 (x6 + 1, s) := by
  have h0 := h
  obtain ⟨H, k, C, N, n, W, hT, rfl, hK, hS, hL, rfl, rfl, rfl, rfl, rfl, x, m, hx, hm, rfl, rfl⟩ := h
  have hH := hT.1.le
  have hp : b + 1 < 15 := by omega
  have p0 : b + 1 ≠ 0 := by omega
  have one : (1 : Int32) + nI b = nI (b + 1) := by rw [Int32.add_comm, nI_1]
  have hv := pc_v hp
  have z : (if (0 : Int32) = 0 then (0 : Int32) else 1) = 0 := rfl
  have z1 : (if (1 : Int32) = 0 then (0 : Int32) else 1) = 1 := rfl
  have refused : mX5_liesWithinLabel (nI H) ks (nI (pcd (b + 1))) = some 0 → mL_evict (nI H) (q 0) (q 1) (q 2) (q 3) (q 4) ks ws pa ca ra ni wi ho (nI x) (nI m) vh0 vl0 vm0 ve0 vb0 vt0 vk0 vw0 vh1 vl1 vm1 ve1 vb1 vt1 vk1 vw1 vh2 vl2 vm2 ve2 vb2 vt2 vk2 vw2 vh3 vl3 vm3 ve3 vb3 vt3 vk3 vw3 (nI (plet (b + 1))) (nI (plen (b + 1))) = some (-2, nI H, q 2, ks, ws, pa, ca, ra, ni, wi, ho, nI x, nI m, vh0, vl0, vm0, ve0, vb0, vt0, vk0, vw0, vh1, vl1, vm1, ve1, vb1, vt1, vk1, vw1, vh2, vl2, vm2, ve2, vb2, vt2, vk2, vw2, vh3, vl3, vm3, ve3, vb3, vt3, vk3, vw3) := by
    intro hcm
    unfold mL_evict mX7_evict
    rw [pc_pre0 _ hp, if_pos rfl, pc_of hp, hcm, Option.bind_some, if_pos rfl]
    rfl
  rcases hL.h01 (b + 1) hp with e | e
  · have nC : ¬ C (pcd (b + 1)) := fun hc => by
      have := ((hL.1 _ hp).2.2.1).mpr hc
      rw [e] at this
      exact absurd this (by decide)
    by_cases ein : inT na (b + 1) = true
    · obtain ⟨j, hj, hb5⟩ := (hT.tb hv).mp (by rw [← inT_tB hL hT hp]; exact ein)
      have hin : mL_inTown na (nI (b + 1)) = some 1 := by
        rw [intown_c na hp, if_pos ein]
      have hlw : mX5_liesWithinLabel (nI H) ks (nI (pcd (b + 1))) = some 1 := by
        unfold mX5_liesWithinLabel
        have := plc_le H k (pcd (b + 1))
        rw [(index_c hK hT.1 (pc_31 hp)).2 nC, Option.bind_some, if_pos rfl, (first_c hK hT.1 hv).1 ⟨j, hj, hb5⟩, Option.bind_some, if_neg (q_neg (by omega))]
      obtain ⟨ks', ws', pa', ca', ra', ni', wi', ho', c1, c2, c3⟩ := cevict_c hT hK hv nC (hT.1.c hj) hb5 (q 2) pa ca ra ni wi ho
      have hch := ev_ch hT hv nC hj hb5
      have hT' := hT.evict hv nC (hT.1.c hj) hb5
      have hL' := hL.setH hp (rfl : pcd (b + 1) = pcd (b + 1))
      have hW : W (pcd (b + 1)) = -1 := by
        rcases Classical.em (W (pcd (b + 1)) = -1) with h3 | h3
        · exact h3
        · exact absurd (hT.2.2.1 _ h3) nC
      obtain ⟨i1, i2⟩ := hT'.1.ixe (Or.inr rfl : (fun y => C y ∨ y = pcd (b + 1)) (pcd (b + 1)))
      obtain ⟨x1, x2⟩ := hT'.nx i1 (fun e0 => pc_pos _ hp p0 (by
        rw [e0, hT'.1.k0] at i2
        exact i2.symm)) (by rw [i2]; exact hm_f.mpr hW)
      obtain ⟨q9, hq15, eq, ec9⟩ := a_child hL' hT'.1 hp (upd_at _ _ _) ⟨x1, x2⟩ hch
      have l2 := hT'.1.lbp x1 (by omega)
      have y5 : mL_length (nI q9) - nI (plen (b + 1)) = nI (lb (insN k (plc H k (pcd (b + 1))) (pcd (b + 1))) (plc (H + 1) (insN k (plc H k (pcd (b + 1))) (pcd (b + 1))) (pcd (b + 1)) + 1)) := by
        rw [pc_len0 q9 hq15]
        unfold lb
        rw [x2, i2, eq, pc_ln hp, pc_ln hq15] at l2
        rw [x2, i2, eq, pc_ln hp, pc_ln hq15, q_sub (by omega)]
      obtain ⟨nx', sz', vh0', vl0', vm0', ve0', vb0', vt0', vk0', vw0', vh1', vl1', vm1', ve1', vb1', vt1', vk1', vw1', vh2', vl2', vm2', ve2', vb2', vt2', vk2', vw2', vh3', vl3', vm3', ve3', vb3', vt3', vk3', vw3', g1, x', m', hx', hm', g2, g3⟩ := push30 hx hm hH vh0 vl0 vm0 ve0 vb0 vt0 vk0 vw0 vh1 vl1 vm1 ve1 vb1 vt1 vk1 vw1 vh2 vl2 vm2 ve2 vb2 vt2 vk2 vw2 vh3 vl3 vm3 ve3 vb3 vt3 vk3 vw3 (q 0) (q 1) (q 2) (q 3) (q 4) ks ws
      have er : mL_evict (nI H) (q 0) (q 1) (q 2) (q 3) (q 4) ks ws pa ca ra ni wi ho (nI x) (nI m) vh0 vl0 vm0 ve0 vb0 vt0 vk0 vw0 vh1 vl1 vm1 ve1 vb1 vt1 vk1 vw1 vh2 vl2 vm2 ve2 vb2 vt2 vk2 vw2 vh3 vl3 vm3 ve3 vb3 vt3 vk3 vw3 (nI (plet (b + 1))) (nI (plen (b + 1))) = some (nI (lb (insN k (plc H k (pcd (b + 1))) (pcd (b + 1))) (plc (H + 1) (insN k (plc H k (pcd (b + 1))) (pcd (b + 1))) (pcd (b + 1)) + 1)), nI (H + 1), q 2 + 1, ks', ws', pa', ca', ra', ni', wi', ho', nx', sz', vh0', vl0', vm0', ve0', vb0', vt0', vk0', vw0', vh1', vl1', vm1', ve1', vb1', vt1', vk1', vw1', vh2', vl2', vm2', ve2', vb2', vt2', vk2', vw2', vh3', vl3', vm3', ve3', vb3', vt3', vk3', vw3') := by
        unfold mL_evict mX7_evict
        rw [pc_pre0 _ hp, if_pos rfl, pc_of hp, hlw, Option.bind_some, if_neg (show ¬ (1 : Int32) = 0 by decide), g1]
        simp only [Option.bind_some]
        rw [c1]
        simp only [Option.bind_some]
        rfl
      have hLT : LT (nI (H + 1)) (q 0) (q 1) (q 2 + 1) (q 3) (q 4) ks' ws' pa' ca' ra' ni' wi' ho' (upd q 2 (q 2 + 1)) na we (upd hq (b + 1) 1) nx' sz' :=
        ⟨H + 1, _, _, N, n, W, hT', rfl, c2, c3, hL', (upd_of (by decide)).symm, (upd_of (by decide)).symm, (upd_at _ _ _).symm, (upd_of (by decide)).symm, (upd_of (by decide)).symm, x', m', hx', hm', g2, g3⟩
      refine ⟨(nI (H + 1), q 0, q 1, q 2 + 1, q 3, q 4, ks', ws', pa', ca', ra', ni', wi', ho', lv, nx', sz', vh0', vl0', vm0', ve0', vb0', vt0', vk0', vw0', vh1', vl1', vm1', ve1', vb1', vt1', vk1', vw1', vh2', vl2', vm2', ve2', vb2', vt2', vk2', vw2', vh3', vl3', vm3', ve3', vb3', vt3', vk3', vw3', upd q 2 (q 2 + 1), na, we, upd hq (b + 1) 1), hLT, ?_⟩
      unfold mL_law_L41_S
      rw [if_neg h14, ec, Option.bind_some, e8, Option.bind_some, ep, Option.bind_some, ew, Option.bind_some, if_pos (show (3 : Int32) ≤ 5 by decide), if_neg (show ¬ (5 : Int32) = 3 by decide), if_neg (show ¬ (5 : Int32) = 4 by decide), if_pos rfl, one, rd15 hq hp, Option.bind_some, if_pos e, hin, Option.bind_some, z1, z1, if_neg (show ¬ (1 : Int32) = 0 by decide), wr15 hq 1 hp, Option.bind_some, pc_let0 _ hp, Option.bind_some, pc_len0 _ hp, er]
      simp only [Option.bind_some]
      rw [if_neg (show ¬ (1 : Int32) = 0 by decide), ec9, Option.bind_some, if_pos y5.symm]
      exact j750 hLT _ _ _ _ _ _ _ _ _ _ _ _ _ _ _ _ _ _ _ _ _ _ _ _ _ _ _ _ _ _ _ _ _ _ _ _
    · have hin : mL_inTown na (nI (b + 1)) = some 0 := by
        rw [intown_c na hp, if_neg ein]
      have er := refused (by
        unfold mX5_liesWithinLabel
        rw [(index_c hK hT.1 (pc_31 hp)).2 nC, Option.bind_some, if_pos rfl, (first_c hK hT.1 hv).2 (fun h3 => ein (by rw [inT_tB hL hT hp]; exact (hT.tb hv).mpr h3)), Option.bind_some, if_pos rfl])
      refine ⟨(nI H, q 0, q 1, q 2, q 3, q 4, ks, ws, pa, ca, ra, ni, wi, ho, lv, nI x, nI m, vh0, vl0, vm0, ve0, vb0, vt0, vk0, vw0, vh1, vl1, vm1, ve1, vb1, vt1, vk1, vw1, vh2, vl2, vm2, ve2, vb2, vt2, vk2, vw2, vh3, vl3, vm3, ve3, vb3, vt3, vk3, vw3, q, na, we, hq), h0, ?_⟩
      unfold mL_law_L41_S
      rw [if_neg h14, ec, Option.bind_some, e8, Option.bind_some, ep, Option.bind_some, ew, Option.bind_some, if_pos (show (3 : Int32) ≤ 5 by decide), if_neg (show ¬ (5 : Int32) = 3 by decide), if_neg (show ¬ (5 : Int32) = 4 by decide), if_pos rfl, one, rd15 hq hp, Option.bind_some, if_pos e, hin, Option.bind_some, z, z, if_pos (show (0 : Int32) = 0 from rfl), Option.bind_some, wr15 hq _ hp, Option.bind_some, pc_let0 _ hp, Option.bind_some, pc_len0 _ hp, er]
      simp only [Option.bind_some]
      rw [if_pos trivial, if_pos trivial, Int32.add_zero, upd_self, upd_self]
      exact j750 h0 _ _ _ _ _ _ _ _ _ _ _ _ _ _ _ _ _ _ _ _ _ _ _ _ _ _ _ _ _ _ _ _ _ _ _ _
  · have er := refused (by
      unfold mX5_liesWithinLabel
      have hc := ((hL.1 _ hp).2.2.1).mp e
      have := (hT.1.ixe hc).1
      rw [(index_c hK hT.1 (pc_31 hp)).1 hc, Option.bind_some, if_neg (q_neg (by omega))])
    refine ⟨(nI H, q 0, q 1, q 2, q 3, q 4, ks, ws, pa, ca, ra, ni, wi, ho, lv, nI x, nI m, vh0, vl0, vm0, ve0, vb0, vt0, vk0, vw0, vh1, vl1, vm1, ve1, vb1, vt1, vk1, vw1, vh2, vl2, vm2, ve2, vb2, vt2, vk2, vw2, vh3, vl3, vm3, ve3, vb3, vt3, vk3, vw3, q, na, we, hq), h0, ?_⟩
    unfold mL_law_L41_S
    rw [if_neg h14, ec, Option.bind_some, e8, Option.bind_some, ep, Option.bind_some, ew, Option.bind_some, if_pos (show (3 : Int32) ≤ 5 by decide), if_neg (show ¬ (5 : Int32) = 3 by decide), if_neg (show ¬ (5 : Int32) = 4 by decide), if_pos rfl, one, rd15 hq hp, Option.bind_some, if_neg (show ¬ hq (b + 1) = 0 by rw [e]; decide), Option.bind_some, wr15 hq _ hp, Option.bind_some, pc_let0 _ hp, Option.bind_some, pc_len0 _ hp, er]
    simp only [Option.bind_some]
    rw [if_pos trivial, Int32.add_zero, upd_self, upd_self]
    exact j750 h0 _ _ _ _ _ _ _ _ _ _ _ _ _ _ _ _ _ _ _ _ _ _ _ _ _ _ _ _ _ _ _ _ _ _ _ _
set_option maxHeartbeats 8000000 in
theorem turn_k6 {hv L mv ev bu td : Int32} {ks ws pa ca ra ni wi ho lv : Nat → Int32} {nx sz : Int32} {vh0 vl0 vm0 ve0 vb0 vt0 : Int32} {vk0 vw0 : Nat → Int32} {vh1 vl1 vm1 ve1 vb1 vt1 : Int32} {vk1 vw1 : Nat → Int32} {vh2 vl2 vm2 ve2 vb2 vt2 : Int32} {vk2 vw2 : Nat → Int32} {vh3 vl3 vm3 ve3 vb3 vt3 : Int32} {vk3 vw3 : Nat → Int32} {q na we hq : Nat → Int32} (h : LT hv L mv ev bu td ks ws pa ca ra ni wi ho q na we hq nx sz) {n_s : Nat} {f_s : Nat → Int32} (tl x6 : Int32) {v : Int32} (h14 : ¬ 14 ≤ x6) (ec : mL_cell n_s f_s x6 = some v) (e8 : mL_low v 8 = some 6) {b : Nat} (hb : b < 14) (ep : mL_low (v >>> (3 &&& 31)) 14 = some (nI b)) {w : Nat} (hw : w < 100) (ew : mL_low (v >>> (7 &&& 31)) 100 = some (nI w)) (rec9 : Int32 × TT → Option Unit) :
    ∃ s : TT, LTt s ∧ mL_law_L41_S n_s f_s tl rec9 x6 hv L mv ev bu td ks ws pa ca ra ni wi ho lv nx sz vh0 vl0 vm0 ve0 vb0 vt0 vk0 vw0 vh1 vl1 vm1 ve1 vb1 vt1 vk1 vw1 vh2 vl2 vm2 ve2 vb2 vt2 vk2 vw2 vh3 vl3 vm3 ve3 vb3 vt3 vk3 vw3 q na we hq = rec9 (x6 + 1, s) := by
  have h0 := h
  obtain ⟨H, k, C, N, n, W, hT, rfl, hK, hS, hL, rfl, rfl, rfl, rfl, rfl, x, m, hx, hm, rfl, rfl⟩ := h
  have hH := hT.1.le
  have hp : b + 1 < 15 := by omega
  have p0 : b + 1 ≠ 0 := by omega
  have one : (1 : Int32) + nI b = nI (b + 1) := by rw [Int32.add_comm, nI_1]
  have hv := pc_v hp
  obtain ⟨H', k', C', ks', ws', pa', ca', ra', ni', wi', ho', lv', c, r1, r2, r3, r4, r5, r6⟩ := comp30 hT hK hS (q 0) (q 1) lv
  obtain ⟨nx', sz', vh0', vl0', vm0', ve0', vb0', vt0', vk0', vw0', vh1', vl1', vm1', ve1', vb1', vt1', vk1', vw1', vh2', vl2', vm2', ve2', vb2', vt2', vk2', vw2', vh3', vl3', vm3', ve3', vb3', vt3', vk3', vw3', g1, x', m', hx', hm', g2, g3⟩ := push30 hx hm hH vh0 vl0 vm0 ve0 vb0 vt0 vk0 vw0 vh1 vl1 vm1 ve1 vb1 vt1 vk1 vw1 vh2 vl2 vm2 ve2 vb2 vt2 vk2 vw2 vh3 vl3 vm3 ve3 vb3 vt3 vk3 vw3 (q 0) (q 1) (q 2) (q 3) (q 4) ks ws
  have hH15 := H15 hL hT.1
  obtain ⟨hq', C9, s1, s2, s3⟩ := rounds30 q 15 FU 0 c 0 H k C hq H' k' (by omega) (by unfold FU; omega) (by omega) hT hL r5
  have s3 : mL_law_L499 q na FU 0 0 hq = some (nI c, nI 15, hq') := by
    rw [Nat.zero_add] at s3
    exact s3
  have er : mX7_compress (nI H) (q 0) (q 1) (q 2) (q 3) (q 4) ks ws pa ca ra ni wi ho lv (nI x) (nI m) vh0 vl0 vm0 ve0 vb0 vt0 vk0 vw0 vh1 vl1 vm1 ve1 vb1 vt1 vk1 vw1 vh2 vl2 vm2 ve2 vb2 vt2 vk2 vw2 vh3 vl3 vm3 ve3 vb3 vt3 vk3 vw3 = some (nI c, nI H', q 1 + nI c, ks', ws', pa', ca', ra', ni', wi', ho', lv', nx', sz', vh0', vl0', vm0', ve0', vb0', vt0', vk0', vw0', vh1', vl1', vm1', ve1', vb1', vt1', vk1', vw1', vh2', vl2', vm2', ve2', vb2', vt2', vk2', vw2', vh3', vl3', vm3', ve3', vb3', vt3', vk3', vw3') := by
    unfold mX7_compress
    rw [g1]
    simp only [Option.bind_some]
    rw [r1]
    simp only [Option.bind_some]
  have hLT : LT (nI H') (q 0) (q 1 + nI c) (q 2) (q 3) (q 4) ks' ws' pa' ca' ra' ni' wi' ho' (upd q 1 (q 1 + nI c)) na we hq' nx' sz' :=
    ⟨H', k', C', N, n, W, r2, rfl, r3, r4, s1.congrC (En.same s2 r2.1.en), (upd_of (by decide)).symm, (upd_at _ _ _).symm, (upd_of (by decide)).symm, (upd_of (by decide)).symm, (upd_of (by decide)).symm, x', m', hx', hm', g2, g3⟩
  refine ⟨(nI H', q 0, q 1 + nI c, q 2, q 3, q 4, ks', ws', pa', ca', ra', ni', wi', ho', lv', nx', sz', vh0', vl0', vm0', ve0', vb0', vt0', vk0', vw0', vh1', vl1', vm1', ve1', vb1', vt1', vk1', vw1', vh2', vl2', vm2', ve2', vb2', vt2', vk2', vw2', vh3', vl3', vm3', ve3', vb3', vt3', vk3', vw3', upd q 1 (q 1 + nI c), na, we, hq'), hLT, ?_⟩
  unfold mL_law_L41_S
  rw [if_neg h14, ec, Option.bind_some, e8, Option.bind_some, ep, Option.bind_some, ew, Option.bind_some, if_pos (show (3 : Int32) ≤ 6 by decide), if_neg (show ¬ (6 : Int32) = 3 by decide), if_neg (show ¬ (6 : Int32) = 4 by decide), if_neg (show ¬ (6 : Int32) = 5 by decide), if_pos rfl, s3]
  simp only [Option.bind_some]
  rw [er]
  simp only [Option.bind_some]
  rw [if_pos trivial]
  exact j750 hLT _ _ _ _ _ _ _ _ _ _ _ _ _ _ _ _ _ _ _ _ _ _ _ _ _ _ _ _ _ _ _ _ _ _ _ _
set_option maxHeartbeats 8000000 in
theorem turn_k7 {hv L mv ev bu td : Int32} {ks ws pa ca ra ni wi ho lv : Nat → Int32} {nx sz : Int32} {vh0 vl0 vm0 ve0 vb0 vt0 : Int32} {vk0 vw0 : Nat → Int32} {vh1 vl1 vm1 ve1 vb1 vt1 : Int32} {vk1 vw1 : Nat → Int32} {vh2 vl2 vm2 ve2 vb2 vt2 : Int32} {vk2 vw2 : Nat → Int32} {vh3 vl3 vm3 ve3 vb3 vt3 : Int32} {vk3 vw3 : Nat → Int32} {q na we hq : Nat → Int32} (h : LT hv L mv ev bu td ks ws pa ca ra ni wi ho q na we hq nx sz) {n_s : Nat} {f_s : Nat → Int32} (tl x6 : Int32) {v : Int32} (h14 : ¬ 14 ≤ x6) (ec : mL_cell n_s f_s x6 = some v) (e8 : mL_low v 8 = some 7) {b : Nat} (hb : b < 14) (ep : mL_low (v >>> (3 &&& 31)) 14 = some (nI b)) {w : Nat} (hw : w < 100) (ew : mL_low (v >>> (7 &&& 31)) 100 = some (nI w)) (rec9 : Int32 × TT → Option Unit) :
    ∃ s : TT, LTt s ∧ mL_law_L41_S n_s f_s tl rec9 x6 hv L mv ev bu td ks ws pa ca ra ni wi ho lv nx sz vh0 vl0 vm0 ve0 vb0 vt0 vk0 vw0 vh1 vl1 vm1 ve1 vb1 vt1 vk1 vw1 vh2 vl2 vm2 ve2 vb2 vt2 vk2 vw2 vh3 vl3 vm3 ve3 vb3 vt3 vk3 vw3 q na we hq = rec9 (x6 + 1, s) := by
  have h0 := h
  obtain ⟨H, k, C, N, n, W, hT, rfl, hK, hS, hL, rfl, rfl, rfl, rfl, rfl, x, m, hx, hm, rfl, rfl⟩ := h
  have hH := hT.1.le
  have hp : b + 1 < 15 := by omega
  have p0 : b + 1 ≠ 0 := by omega
  have one : (1 : Int32) + nI b = nI (b + 1) := by rw [Int32.add_comm, nI_1]
  have hv := pc_v hp
  obtain ⟨d, hd, ed⟩ := low_c (v >>> (5 &&& 31)) (n := 2) (by decide) (by decide)
  have ed : mL_low (v >>> (5 &&& 31)) 2 = some (nI d) := ed
  obtain ⟨nx', sz', vh0', vl0', vm0', ve0', vb0', vt0', vk0', vw0', vh1', vl1', vm1', ve1', vb1', vt1', vk1', vw1', vh2', vl2', vm2', ve2', vb2', vt2', vk2', vw2', vh3', vl3', vm3', ve3', vb3', vt3', vk3', vw3', g1, x', m', hx', hm', g2, g3⟩ := push30 hx hm hH vh0 vl0 vm0 ve0 vb0 vt0 vk0 vw0 vh1 vl1 vm1 ve1 vb1 vt1 vk1 vw1 vh2 vl2 vm2 ve2 vb2 vt2 vk2 vw2 vh3 vl3 vm3 ve3 vb3 vt3 vk3 vw3 (q 0) (q 1) (q 2) (q 3) (q 4) ks ws
  by_cases d0 : d = 0
  · subst d0
    obtain ⟨H', k', hT'⟩ := hT.all
    obtain ⟨ks', ws', pa', ca', ra', ni', wi', ho', c1, c2, c3, c4⟩ := cexp_c hT hK hS (q 2) hT'
    obtain ⟨hq', s1, s2⟩ := exp30 hL hT hT' c4
    have er : mX7_expand (nI H) (q 0) (q 1) (q 2) (q 3) (q 4) ks ws pa ca ra ni wi ho (nI x) (nI m) vh0 vl0 vm0 ve0 vb0 vt0 vk0 vw0 vh1 vl1 vm1 ve1 vb1 vt1 vk1 vw1 vh2 vl2 vm2 ve2 vb2 vt2 vk2 vw2 vh3 vl3 vm3 ve3 vb3 vt3 vk3 vw3 = some (nI (H' - H), nI H', q 2 + nI (H' - H), ks', ws', pa', ca', ra', ni', wi', ho', nx', sz', vh0', vl0', vm0', ve0', vb0', vt0', vk0', vw0', vh1', vl1', vm1', ve1', vb1', vt1', vk1', vw1', vh2', vl2', vm2', ve2', vb2', vt2', vk2', vw2', vh3', vl3', vm3', ve3', vb3', vt3', vk3', vw3') := by
      unfold mX7_expand
      rw [g1]
      simp only [Option.bind_some]
      rw [c1]
      simp only [Option.bind_some]
    have hLT : LT (nI H') (q 0) (q 1) (q 2 + nI (H' - H)) (q 3) (q 4) ks' ws' pa' ca' ra' ni' wi' ho' (upd q 2 (q 2 + nI (H' - H))) na we hq' nx' sz' :=
      ⟨H', k', _, N, n, W, hT', rfl, c2, c3, s2, (upd_of (by decide)).symm, (upd_of (by decide)).symm, (upd_at _ _ _).symm, (upd_of (by decide)).symm, (upd_of (by decide)).symm, x', m', hx', hm', g2, g3⟩
    refine ⟨(nI H', q 0, q 1, q 2 + nI (H' - H), q 3, q 4, ks', ws', pa', ca', ra', ni', wi', ho', lv, nx', sz', vh0', vl0', vm0', ve0', vb0', vt0', vk0', vw0', vh1', vl1', vm1', ve1', vb1', vt1', vk1', vw1', vh2', vl2', vm2', ve2', vb2', vt2', vk2', vw2', vh3', vl3', vm3', ve3', vb3', vt3', vk3', vw3', upd q 2 (q 2 + nI (H' - H)), na, we, hq'), hLT, ?_⟩
    unfold mL_law_L41_S
    rw [if_neg h14, ec, Option.bind_some, e8, Option.bind_some, ep, Option.bind_some, ew, Option.bind_some, if_pos (show (3 : Int32) ≤ 7 by decide), if_neg (show ¬ (7 : Int32) = 3 by decide), if_neg (show ¬ (7 : Int32) = 4 by decide), if_neg (show ¬ (7 : Int32) = 5 by decide), if_neg (show ¬ (7 : Int32) = 6 by decide), ed, Option.bind_some, if_pos nI_0, s1]
    simp only [Option.bind_some]
    rw [er]
    simp only [Option.bind_some]
    rw [if_pos trivial]
    exact j750 hLT _ _ _ _ _ _ _ _ _ _ _ _ _ _ _ _ _ _ _ _ _ _ _ _ _ _ _ _ _ _ _ _ _ _ _ _
  · obtain ⟨l, hl, el⟩ := low_c (v >>> (7 &&& 31)) (n := 8) (by decide) (by decide)
    have el : mL_low (v >>> (7 &&& 31)) 8 = some (nI l) := el
    have onel : (1 : Int32) + nI l = nI (l + 1) := by rw [Int32.add_comm, nI_1]
    have er : mX7_setLimit_n (nI H) (q 0) (q 1) (q 2) (q 3) (q 4) ks ws (nI x) (nI m) vh0 vl0 vm0 ve0 vb0 vt0 vk0 vw0 vh1 vl1 vm1 ve1 vb1 vt1 vk1 vw1 vh2 vl2 vm2 ve2 vb2 vt2 vk2 vw2 vh3 vl3 vm3 ve3 vb3 vt3 vk3 vw3 (nI (l + 1)) = some (q 0, nI (l + 1), nx', sz', vh0', vl0', vm0', ve0', vb0', vt0', vk0', vw0', vh1', vl1', vm1', ve1', vb1', vt1', vk1', vw1', vh2', vl2', vm2', ve2', vb2', vt2', vk2', vw2', vh3', vl3', vm3', ve3', vb3', vt3', vk3', vw3') := by
      unfold mX7_setLimit_n mX5_changeLimit
      rw [lim0 l hl, Option.bind_some, g1]
      simp only [Option.bind_some]
    have hLT : LT (nI H) (nI (l + 1)) (q 1) (q 2) (q 3) (q 4) ks ws pa ca ra ni wi ho (upd q 0 (nI (l + 1))) na we hq nx' sz' :=
      ⟨H, k, C, N, n, W, hT, rfl, hK, hS, hL, (upd_at _ _ _).symm, (upd_of (by decide)).symm, (upd_of (by decide)).symm, (upd_of (by decide)).symm, (upd_of (by decide)).symm, x', m', hx', hm', g2, g3⟩
    refine ⟨(nI H, nI (l + 1), q 1, q 2, q 3, q 4, ks, ws, pa, ca, ra, ni, wi, ho, lv, nx', sz', vh0', vl0', vm0', ve0', vb0', vt0', vk0', vw0', vh1', vl1', vm1', ve1', vb1', vt1', vk1', vw1', vh2', vl2', vm2', ve2', vb2', vt2', vk2', vw2', vh3', vl3', vm3', ve3', vb3', vt3', vk3', vw3', upd q 0 (nI (l + 1)), na, we, hq), hLT, ?_⟩
    unfold mL_law_L41_S
    rw [if_neg h14, ec, Option.bind_some, e8, Option.bind_some, ep, Option.bind_some, ew, Option.bind_some, if_pos (show (3 : Int32) ≤ 7 by decide), if_neg (show ¬ (7 : Int32) = 3 by decide), if_neg (show ¬ (7 : Int32) = 4 by decide), if_neg (show ¬ (7 : Int32) = 5 by decide), if_neg (show ¬ (7 : Int32) = 6 by decide), ed, Option.bind_some, if_neg (nI_ne0 (by omega) (by omega)), el, Option.bind_some, onel, er]
    simp only [Option.bind_some]
    rw [if_pos trivial]
    exact j750 hLT _ _ _ _ _ _ _ _ _ _ _ _ _ _ _ _ _ _ _ _ _ _ _ _ _ _ _ _ _ _ _ _ _ _ _ _
