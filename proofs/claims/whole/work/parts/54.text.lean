set_option maxHeartbeats 4000000 in
theorem sim_S20 {hv L mv ev bu td : Int32} {ks ws pa ca ra ni wi ho lv : Nat → Int32} {yhv yL ymv yev ybu ytd : Int32} {yks yws ypa yca yra yni ywi yho ylv : Nat → Int32} {nx sz vh0 vl0 vm0 ve0 vb0 vt0 : Int32} {vk0 vw0 : Nat → Int32} {vh1 vl1 vm1 ve1 vb1 vt1 : Int32} {vk1 vw1 : Nat → Int32} {vh2 vl2 vm2 ve2 vb2 vt2 : Int32} {vk2 vw2 : Nat → Int32} {vh3 vl3 vm3 ve3 vb3 vt3 : Int32} {vk3 vw3 : Nat → Int32} {tl : Int32} {sg : Nat → Int32} {qi qk ql qn qu qd mth msv mtl mpl msg mrl mrn mru : Int32} {mst mkp msk mtx : Nat → Int32} (h : Sim hv L mv ev bu td ks ws pa ca ra ni wi ho lv yhv yL ymv yev ybu ytd yks yws ypa yca yra yni ywi yho ylv nx sz vh0 vl0 vm0 ve0 vb0 vt0 vk0 vw0 vh1 vl1 vm1 ve1 vb1 vt1 vk1 vw1 vh2 vl2 vm2 ve2 vb2 vt2 vk2 vw2 vh3 vl3 vm3 ve3 vb3 vt3 vk3 vw3 tl sg qi qk ql qn qu qd mth msv mtl mpl msg mrl mrn mru mst mkp msk mtx) (p1 : Int32) : Step_c20 Sim hv L mv ev bu td ks ws pa ca ra ni wi ho lv yhv yL ymv yev ybu ytd yks yws ypa yca yra yni ywi yho ylv nx sz vh0 vl0 vm0 ve0 vb0 vt0 vk0 vw0 vh1 vl1 vm1 ve1 vb1 vt1 vk1 vw1 vh2 vl2 vm2 ve2 vb2 vt2 vk2 vw2 vh3 vl3 vm3 ve3 vb3 vt3 vk3 vw3 tl sg qi qk ql qn qu qd mth msv mtl mpl msg mrl mrn mru mst mkp msk mtx p1 := by
  unfold Step_c20
  rcases rl_c p1 with ⟨a1, a2⟩ | ⟨a1, a2⟩
  · refine ⟨1, 0, yhv, yL, ymv, yev, ybu, ytd, yks, yws, ypa, yca, yra, yni, ywi, yho, ylv, 0, 1, mst, mkp, ?_, Or.inr rfl, fun _ => ⟨rfl, rfl, rfl, rfl, rfl, rfl, rfl, rfl, rfl, rfl, rfl, rfl, rfl, rfl, rfl⟩, ?_, rfl, fun h => absurd h (by decide), sim_mk h.1 h.2.1 h.2.2⟩
    · unfold mX7_costWith
      rw [a1]
      rfl
    · unfold mX8_costWith
      rw [a2]
      rfl
  obtain ⟨ks1, ws1, c1, t1⟩ := h.1.state.copy yks yws
  obtain ⟨pa1, ca1, ra1, ni1, wi1, ho1, c2, t2⟩ := t1.survey ypa yca yra yni ywi yho
  have t3 := t2.lim p1
  obtain ⟨r1, hv2, ev2, ks2, ws2, pa2, ca2, ra2, ni2, wi2, ho2, f2, c3, c4, t4⟩ := t3.exp
  obtain ⟨r3, hv3, mv3, ks3, ws3, pa3, ca3, ra3, ni3, wi3, ho3, lv3, f3, c5, c6, t5⟩ := t4.comp ylv
  obtain ⟨r, c7, c8⟩ := t5.cost
  obtain ⟨g, d1, d2, d3⟩ := rcopy_c 255 255 mst mkp (a := 0) (b := 0) (by omega) (by omega) (by omega) (by omega)
  obtain ⟨g', d4, d5, d6⟩ := rcopy_c 255 255 g f3 (a := 0) (b := 0) (by omega) (by omega) (by omega) (by omega)
  have hc : ∀ i, i < 255 → g' i = mst i := fun i hi => by
    have x1 := d5 i hi
    have x2 := d2 i hi
    rw [Nat.zero_add] at x1 x2
    rw [x1, x2]
  refine ⟨0, r, hv3, p1, mv3, ev2, bu, td, ks3, ws3, pa3, ca3, ra3, ni3, wi3, ho3, lv3, r, 0, g', g, ?_, Or.inl rfl, fun h => absurd rfl h, ?_, rfl, fun _ => rfl, sim_mk (h.1.cells hc) h.2.1 h.2.2⟩
  · unfold mX7_costWith mX5_become
    rw [a1, if_pos rfl, c1]
    simp only [Option.bind_some]
    rw [c2]
    simp only [Option.bind_some]
    unfold mX5_changeLimit
    simp only [Option.bind_some]
    rw [c3]
    simp only [Option.bind_some]
    rw [c5]
    simp only [Option.bind_some]
    rw [c7]
    rfl
  · unfold mX8_costWith
    rw [a2, if_pos (by decide), show mX8_copy 255 255 mst mkp 0 0 = _ from d1, Option.bind_some, c4]
    simp only [Option.bind_some]
    rw [c6]
    simp only [Option.bind_some]
    rw [c8, Option.bind_some, show mX8_copy 255 255 g f3 0 0 = _ from d4]
    rfl
set_option maxHeartbeats 4000000 in
theorem sim_S22 {hv L mv ev bu td : Int32} {ks ws pa ca ra ni wi ho lv : Nat → Int32} {yhv yL ymv yev ybu ytd : Int32} {yks yws ypa yca yra yni ywi yho ylv : Nat → Int32} {nx sz vh0 vl0 vm0 ve0 vb0 vt0 : Int32} {vk0 vw0 : Nat → Int32} {vh1 vl1 vm1 ve1 vb1 vt1 : Int32} {vk1 vw1 : Nat → Int32} {vh2 vl2 vm2 ve2 vb2 vt2 : Int32} {vk2 vw2 : Nat → Int32} {vh3 vl3 vm3 ve3 vb3 vt3 : Int32} {vk3 vw3 : Nat → Int32} {tl : Int32} {sg : Nat → Int32} {qi qk ql qn qu qd mth msv mtl mpl msg mrl mrn mru : Int32} {mst mkp msk mtx : Nat → Int32} (h : Sim hv L mv ev bu td ks ws pa ca ra ni wi ho lv yhv yL ymv yev ybu ytd yks yws ypa yca yra yni ywi yho ylv nx sz vh0 vl0 vm0 ve0 vb0 vt0 vk0 vw0 vh1 vl1 vm1 ve1 vb1 vt1 vk1 vw1 vh2 vl2 vm2 ve2 vb2 vt2 vk2 vw2 vh3 vl3 vm3 ve3 vb3 vt3 vk3 vw3 tl sg qi qk ql qn qu qd mth msv mtl mpl msg mrl mrn mru mst mkp msk mtx) (p1 : Int32) : Step_c22 Sim hv L mv ev bu td ks ws pa ca ra ni wi ho lv yhv yL ymv yev ybu ytd yks yws ypa yca yra yni ywi yho ylv nx sz vh0 vl0 vm0 ve0 vb0 vt0 vk0 vw0 vh1 vl1 vm1 ve1 vb1 vt1 vk1 vw1 vh2 vl2 vm2 ve2 vb2 vt2 vk2 vw2 vh3 vl3 vm3 ve3 vb3 vt3 vk3 vw3 tl sg qi qk ql qn qu qd mth msv mtl mpl msg mrl mrn mru mst mkp msk mtx p1 := by
  unfold Step_c22
  obtain ⟨T, t, x1, rfl, rfl, x4⟩ := h.2.2
  by_cases hp : p1 < 0
  · refine ⟨1, 0, nI T, sg, 0, 1, nI T, mtx, ?_, Or.inr (Or.inl rfl), fun _ => ⟨rfl, rfl⟩, ?_, rfl, fun h => absurd h (by decide), sim_mk h.1 h.2.1 h.2.2⟩
    · unfold mX7_type
      rw [if_pos hp]
    · unfold mX8_type
      rw [show mX8_within p1 0 127 = 0 by unfold mX8_within; rw [if_pos hp]]
      rfl
  by_cases hp2 : p1 ≤ 127
  · obtain ⟨c, hc, rfl⟩ := nI_of2 (x := p1) (M := 127) (n := 127) rfl hp hp2
    have hw : mX8_within (nI c) 0 127 = 1 := by rw [within_c (c := c) (lo := 0) (hi := 127) (by omega) (by omega) (by omega), if_pos ⟨by omega, hc⟩]
    rcases Nat.lt_or_ge T 120 with hT | hT
    · refine ⟨0, nI (T + 1), nI (T + 1), upd sg T (nI c), nI (T + 1), 0, nI (T + 1), upd mtx T (nI c), ?_, Or.inl rfl, fun h => absurd rfl h, ?_, rfl, fun _ => rfl, sim_mk h.1 h.2.1 ⟨T + 1, fun i => if i = T then c else t i, by omega, rfl, rfl, fun i hi => ?_⟩⟩
      · unfold mX7_type mX1_length mX1_append
        rw [if_neg hp, if_pos hp2, if_pos ((q_ltn 120 (by omega) (by omega)).mpr hT), put_nI sg _ (by omega) (by omega), nI_1]
        rfl
      · have hz : (if nI T = 120 then (2 : Int32) else 0) = 0 := if_neg (fun e => by
          have := (q_eqn 120 (show T < 2 ^ 31 by omega) (by omega)).mp e
          omega)
        unfold mX8_type
        rw [hw, if_neg (show ¬ (1 : Int32) = 0 by decide), hz, if_pos (show (0 : Int32) ≤ 0 by decide), wr_nI mtx _ (by omega) (by omega), nI_1]
        rfl
      · dsimp only
        by_cases hi2 : i = T
        · rw [if_pos hi2, hi2, upd_at, upd_at]
          exact ⟨rfl, rfl, hc⟩
        · rw [if_neg hi2, upd_of hi2, upd_of hi2]
          exact x4 i (by omega)
    · have eT : T = 120 := by omega
      subst eT
      refine ⟨2, 0, nI 120, sg, 0, 2, nI 120, mtx, ?_, Or.inr (Or.inr rfl), fun _ => ⟨rfl, rfl⟩, ?_, rfl, fun h => absurd h (by decide), sim_mk h.1 h.2.1 h.2.2⟩
      · unfold mX7_type mX1_length
        rw [if_neg hp, if_pos hp2, if_neg (by decide +kernel)]
      · unfold mX8_type
        rw [hw, if_neg (show ¬ (1 : Int32) = 0 by decide), if_pos (show nI 120 = 120 from rfl)]
        rfl
  · refine ⟨1, 0, nI T, sg, 0, 1, nI T, mtx, ?_, Or.inr (Or.inl rfl), fun _ => ⟨rfl, rfl⟩, ?_, rfl, fun h => absurd h (by decide), sim_mk h.1 h.2.1 h.2.2⟩
    · unfold mX7_type
      rw [if_neg hp, if_neg hp2]
    · unfold mX8_type
      rw [show mX8_within p1 0 127 = 0 by unfold mX8_within; rw [if_neg hp, if_pos (Int32.not_le.mp hp2)]]
      rfl
set_option maxHeartbeats 4000000 in
theorem sim_S23 {hv L mv ev bu td : Int32} {ks ws pa ca ra ni wi ho lv : Nat → Int32} {yhv yL ymv yev ybu ytd : Int32} {yks yws ypa yca yra yni ywi yho ylv : Nat → Int32} {nx sz vh0 vl0 vm0 ve0 vb0 vt0 : Int32} {vk0 vw0 : Nat → Int32} {vh1 vl1 vm1 ve1 vb1 vt1 : Int32} {vk1 vw1 : Nat → Int32} {vh2 vl2 vm2 ve2 vb2 vt2 : Int32} {vk2 vw2 : Nat → Int32} {vh3 vl3 vm3 ve3 vb3 vt3 : Int32} {vk3 vw3 : Nat → Int32} {tl : Int32} {sg : Nat → Int32} {qi qk ql qn qu qd mth msv mtl mpl msg mrl mrn mru : Int32} {mst mkp msk mtx : Nat → Int32} (h : Sim hv L mv ev bu td ks ws pa ca ra ni wi ho lv yhv yL ymv yev ybu ytd yks yws ypa yca yra yni ywi yho ylv nx sz vh0 vl0 vm0 ve0 vb0 vt0 vk0 vw0 vh1 vl1 vm1 ve1 vb1 vt1 vk1 vw1 vh2 vl2 vm2 ve2 vb2 vt2 vk2 vw2 vh3 vl3 vm3 ve3 vb3 vt3 vk3 vw3 tl sg qi qk ql qn qu qd mth msv mtl mpl msg mrl mrn mru mst mkp msk mtx) : Step_c23 Sim hv L mv ev bu td ks ws pa ca ra ni wi ho lv yhv yL ymv yev ybu ytd yks yws ypa yca yra yni ywi yho ylv nx sz vh0 vl0 vm0 ve0 vb0 vt0 vk0 vw0 vh1 vl1 vm1 ve1 vb1 vt1 vk1 vw1 vh2 vl2 vm2 ve2 vb2 vt2 vk2 vw2 vh3 vl3 vm3 ve3 vb3 vt3 vk3 vw3 tl sg qi qk ql qn qu qd mth msv mtl mpl msg mrl mrn mru mst mkp msk mtx := by
  unfold Step_c23
  obtain ⟨T, t, x1, rfl, rfl, x4⟩ := h.2.2
  exact ⟨nI T, 0, nI T, 0, 0, rfl, rfl, rfl, sim_mk h.1 h.2.1 ⟨0, fun _ => 0, by omega, rfl, rfl, fun i hi => absurd hi (Nat.not_lt_zero _)⟩⟩
