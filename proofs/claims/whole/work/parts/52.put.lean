set_option maxHeartbeats 4000000 in
theorem sim_S0 {hv L mv ev bu td : Int32} {ks ws pa ca ra ni wi ho lv : Nat → Int32} {yhv yL ymv yev ybu ytd : Int32} {yks yws ypa yca yra yni ywi yho ylv : Nat → Int32} {nx sz vh0 vl0 vm0 ve0 vb0 vt0 : Int32} {vk0 vw0 : Nat → Int32} {vh1 vl1 vm1 ve1 vb1 vt1 : Int32} {vk1 vw1 : Nat → Int32} {vh2 vl2 vm2 ve2 vb2 vt2 : Int32} {vk2 vw2 : Nat → Int32} {vh3 vl3 vm3 ve3 vb3 vt3 : Int32} {vk3 vw3 : Nat → Int32} {tl : Int32} {sg : Nat → Int32} {qi qk ql qn qu qd mth msv mtl mpl msg mrl mrn mru : Int32} {mst mkp msk mtx : Nat → Int32} (h : Sim hv L mv ev bu td ks ws pa ca ra ni wi ho lv yhv yL ymv yev ybu ytd yks yws ypa yca yra yni ywi yho ylv nx sz vh0 vl0 vm0 ve0 vb0 vt0 vk0 vw0 vh1 vl1 vm1 ve1 vb1 vt1 vk1 vw1 vh2 vl2 vm2 ve2 vb2 vt2 vk2 vw2 vh3 vl3 vm3 ve3 vb3 vt3 vk3 vw3 tl sg qi qk ql qn qu qd mth msv mtl mpl msg mrl mrn mru mst mkp msk mtx) (p1 p2 p3 : Int32) : Step_c0 Sim hv L mv ev bu td ks ws pa ca ra ni wi ho lv yhv yL ymv yev ybu ytd yks yws ypa yca yra yni ywi yho ylv nx sz vh0 vl0 vm0 ve0 vb0 vt0 vk0 vw0 vh1 vl1 vm1 ve1 vb1 vt1 vk1 vw1 vh2 vl2 vm2 ve2 vb2 vt2 vk2 vw2 vh3 vl3 vm3 ve3 vb3 vt3 vk3 vw3 tl sg qi qk ql qn qu qd mth msv mtl mpl msg mrl mrn mru mst mkp msk mtx p1 p2 p3 := by
  unfold Step_c0
  rcases rn_c p1 p2 with ⟨a1, a2⟩ | ⟨a1, a2, a, l, l0, l8, v, vl, e1, e2⟩
  · refine ⟨1, 0, hv, ev, bu, ks, ws, pa, ca, ra, ni, wi, ho, nx, sz, vh0, vl0, vm0, ve0, vb0, vt0, vk0, vw0, vh1, vl1, vm1, ve1, vb1, vt1, vk1, vw1, vh2, vl2, vm2, ve2, vb2, vt2, vk2, vw2, vh3, vl3, vm3, ve3, vb3, vt3, vk3, vw3, 0, 1, msv, mst, msk, ?_, Or.inr (Or.inl rfl), fun _ => ⟨rfl, rfl, rfl, rfl, rfl, rfl, rfl, rfl, rfl, rfl, rfl, rfl, rfl, rfl, rfl, rfl, rfl, rfl, rfl, rfl, rfl, rfl, rfl, rfl, rfl, rfl, rfl, rfl, rfl, rfl, rfl, rfl, rfl, rfl, rfl, rfl, rfl, rfl, rfl, rfl, rfl, rfl, rfl, rfl, rfl⟩, ?_, rfl, fun h => absurd h (by decide), sim_mk h.1 h.2.1 h.2.2⟩
    · unfold mX7_add
      rw [a1]
      rfl
    · unfold mX8_add mX8_whyNotAdded
      rw [a2]
      rfl
  rcases rw_c p3 with ⟨b1, b2⟩ | ⟨b1, b2, b3⟩
  · refine ⟨1, 0, hv, ev, bu, ks, ws, pa, ca, ra, ni, wi, ho, nx, sz, vh0, vl0, vm0, ve0, vb0, vt0, vk0, vw0, vh1, vl1, vm1, ve1, vb1, vt1, vk1, vw1, vh2, vl2, vm2, ve2, vb2, vt2, vk2, vw2, vh3, vl3, vm3, ve3, vb3, vt3, vk3, vw3, 0, 1, msv, mst, msk, ?_, Or.inr (Or.inl rfl), fun _ => ⟨rfl, rfl, rfl, rfl, rfl, rfl, rfl, rfl, rfl, rfl, rfl, rfl, rfl, rfl, rfl, rfl, rfl, rfl, rfl, rfl, rfl, rfl, rfl, rfl, rfl, rfl, rfl, rfl, rfl, rfl, rfl, rfl, rfl, rfl, rfl, rfl, rfl, rfl, rfl, rfl, rfl, rfl, rfl, rfl, rfl⟩, ?_, rfl, fun h => absurd h (by decide), sim_mk h.1 h.2.1 h.2.2⟩
    · unfold mX7_add
      rw [a1, b1]
      rfl
    · unfold mX8_add mX8_whyNotAdded
      rw [a2, b2]
      rfl
  rcases h.1.take v (by omega) b3 with ⟨c1, u, c2, c3⟩ | ⟨c1, c2, c3, r, hv', ev', bu', ks', ws', pa', ca', ra', ni', wi', ho', mst', c4, c5, c6⟩
  · refine ⟨2, 0, hv, ev, bu, ks, ws, pa, ca, ra, ni, wi, ho, nx, sz, vh0, vl0, vm0, ve0, vb0, vt0, vk0, vw0, vh1, vl1, vm1, ve1, vb1, vt1, vk1, vw1, vh2, vl2, vm2, ve2, vb2, vt2, vk2, vw2, vh3, vl3, vm3, ve3, vb3, vt3, vk3, vw3, 0, 2, msv, mst, msk, ?_, Or.inr (Or.inr rfl), fun _ => ⟨rfl, rfl, rfl, rfl, rfl, rfl, rfl, rfl, rfl, rfl, rfl, rfl, rfl, rfl, rfl, rfl, rfl, rfl, rfl, rfl, rfl, rfl, rfl, rfl, rfl, rfl, rfl, rfl, rfl, rfl, rfl, rfl, rfl, rfl, rfl, rfl, rfl, rfl, rfl, rfl, rfl, rfl, rfl, rfl, rfl⟩, ?_, rfl, fun h => absurd h (by decide), sim_mk h.1 h.2.1 h.2.2⟩
    · unfold mX7_add
      rw [a1, b1, e1, c1]
      rfl
    · unfold mX8_add mX8_whyNotAdded
      rw [a2, b2, e2, c2, if_neg (by decide), if_neg (by decide)]
      simp only [Option.bind_some]
      have : (if u = -1 then (if mst 1 = 24 then (2 : Int32) else 0) else 2) = 2 := by
        rcases c3 with c3 | ⟨c3, c4⟩
        · rw [if_neg c3]
        · rw [if_pos c3, if_pos c4]
      rw [this]
      rfl
  obtain ⟨nx', sz', vh0', vl0', vm0', ve0', vb0', vt0', vk0', vw0', vh1', vl1', vm1', ve1', vb1', vt1', vk1', vw1', vh2', vl2', vm2', ve2', vb2', vt2', vk2', vw2', vh3', vl3', vm3', ve3', vb3', vt3', vk3', vw3', msv', msk', g1, g2, g3⟩ := push_c h.2.1 h.1.state
  refine ⟨0, r, hv', ev', bu', ks', ws', pa', ca', ra', ni', wi', ho', nx', sz', vh0', vl0', vm0', ve0', vb0', vt0', vk0', vw0', vh1', vl1', vm1', ve1', vb1', vt1', vk1', vw1', vh2', vl2', vm2', ve2', vb2', vt2', vk2', vw2', vh3', vl3', vm3', ve3', vb3', vt3', vk3', vw3', r, 0, msv', mst', msk', ?_, Or.inl rfl, fun h => absurd rfl h, ?_, rfl, fun _ => rfl, sim_mk c6 g3 h.2.2⟩
  · unfold mX7_add
    rw [a1, b1, e1, c1, if_pos rfl, if_pos rfl, Option.bind_some, if_neg (by decide), g1]
    simp only [Option.bind_some]
    rw [c4]
    rfl
  · unfold mX8_add mX8_whyNotAdded
    rw [a2, b2, e2, c2, if_neg (by decide), if_neg (by decide), Option.bind_some, Option.bind_some, if_pos rfl, if_neg c3, if_pos (by decide), g2]
    simp only [Option.bind_some]
    rw [c5]
    rfl
set_option maxHeartbeats 4000000 in
theorem sim_S1 {hv L mv ev bu td : Int32} {ks ws pa ca ra ni wi ho lv : Nat → Int32} {yhv yL ymv yev ybu ytd : Int32} {yks yws ypa yca yra yni ywi yho ylv : Nat → Int32} {nx sz vh0 vl0 vm0 ve0 vb0 vt0 : Int32} {vk0 vw0 : Nat → Int32} {vh1 vl1 vm1 ve1 vb1 vt1 : Int32} {vk1 vw1 : Nat → Int32} {vh2 vl2 vm2 ve2 vb2 vt2 : Int32} {vk2 vw2 : Nat → Int32} {vh3 vl3 vm3 ve3 vb3 vt3 : Int32} {vk3 vw3 : Nat → Int32} {tl : Int32} {sg : Nat → Int32} {qi qk ql qn qu qd mth msv mtl mpl msg mrl mrn mru : Int32} {mst mkp msk mtx : Nat → Int32} (h : Sim hv L mv ev bu td ks ws pa ca ra ni wi ho lv yhv yL ymv yev ybu ytd yks yws ypa yca yra yni ywi yho ylv nx sz vh0 vl0 vm0 ve0 vb0 vt0 vk0 vw0 vh1 vl1 vm1 ve1 vb1 vt1 vk1 vw1 vh2 vl2 vm2 ve2 vb2 vt2 vk2 vw2 vh3 vl3 vm3 ve3 vb3 vt3 vk3 vw3 tl sg qi qk ql qn qu qd mth msv mtl mpl msg mrl mrn mru mst mkp msk mtx) (p1 p2 : Int32) : Step_c1 Sim hv L mv ev bu td ks ws pa ca ra ni wi ho lv yhv yL ymv yev ybu ytd yks yws ypa yca yra yni ywi yho ylv nx sz vh0 vl0 vm0 ve0 vb0 vt0 vk0 vw0 vh1 vl1 vm1 ve1 vb1 vt1 vk1 vw1 vh2 vl2 vm2 ve2 vb2 vt2 vk2 vw2 vh3 vl3 vm3 ve3 vb3 vt3 vk3 vw3 tl sg qi qk ql qn qu qd mth msv mtl mpl msg mrl mrn mru mst mkp msk mtx p1 p2 := by
  unfold Step_c1
  rcases rn_c p1 p2 with ⟨a1, a2⟩ | ⟨a1, a2, a, l, l0, l8, v, vl, e1, e2⟩
  · refine ⟨1, 0, hv, td, ks, ws, pa, ca, ra, ni, wi, ho, nx, sz, vh0, vl0, vm0, ve0, vb0, vt0, vk0, vw0, vh1, vl1, vm1, ve1, vb1, vt1, vk1, vw1, vh2, vl2, vm2, ve2, vb2, vt2, vk2, vw2, vh3, vl3, vm3, ve3, vb3, vt3, vk3, vw3, 0, 1, msv, mst, msk, ?_, Or.inr (Or.inl rfl), fun _ => ⟨rfl, rfl, rfl, rfl, rfl, rfl, rfl, rfl, rfl, rfl, rfl, rfl, rfl, rfl, rfl, rfl, rfl, rfl, rfl, rfl, rfl, rfl, rfl, rfl, rfl, rfl, rfl, rfl, rfl, rfl, rfl, rfl, rfl, rfl, rfl, rfl, rfl, rfl, rfl, rfl, rfl, rfl, rfl, rfl⟩, ?_, rfl, fun h => absurd h (by decide), sim_mk h.1 h.2.1 h.2.2⟩
    · unfold mX7_remove
      rw [a1]
      rfl
    · unfold mX8_remove mX8_whyNotThere
      rw [a2]
      rfl
  rcases h.1.drop v with ⟨c1, c2⟩ | ⟨x, u, c1, c2, c3, c4, r, hv', td', ks', ws', pa', ca', ra', ni', wi', ho', mst', c5, c6, c7⟩
  · refine ⟨2, 0, hv, td, ks, ws, pa, ca, ra, ni, wi, ho, nx, sz, vh0, vl0, vm0, ve0, vb0, vt0, vk0, vw0, vh1, vl1, vm1, ve1, vb1, vt1, vk1, vw1, vh2, vl2, vm2, ve2, vb2, vt2, vk2, vw2, vh3, vl3, vm3, ve3, vb3, vt3, vk3, vw3, 0, 2, msv, mst, msk, ?_, Or.inr (Or.inr rfl), fun _ => ⟨rfl, rfl, rfl, rfl, rfl, rfl, rfl, rfl, rfl, rfl, rfl, rfl, rfl, rfl, rfl, rfl, rfl, rfl, rfl, rfl, rfl, rfl, rfl, rfl, rfl, rfl, rfl, rfl, rfl, rfl, rfl, rfl, rfl, rfl, rfl, rfl, rfl, rfl, rfl, rfl, rfl, rfl, rfl, rfl⟩, ?_, rfl, fun h => absurd h (by decide), sim_mk h.1 h.2.1 h.2.2⟩
    · unfold mX7_remove mX7_requireInTown
      rw [a1, e1, c1]
      rfl
    · unfold mX8_remove mX8_whyNotThere
      rw [a2, e2, c2]
      rfl
  obtain ⟨nx', sz', vh0', vl0', vm0', ve0', vb0', vt0', vk0', vw0', vh1', vl1', vm1', ve1', vb1', vt1', vk1', vw1', vh2', vl2', vm2', ve2', vb2', vt2', vk2', vw2', vh3', vl3', vm3', ve3', vb3', vt3', vk3', vw3', msv', msk', g1, g2, g3⟩ := push_c h.2.1 h.1.state
  refine ⟨0, r, hv', td', ks', ws', pa', ca', ra', ni', wi', ho', nx', sz', vh0', vl0', vm0', ve0', vb0', vt0', vk0', vw0', vh1', vl1', vm1', ve1', vb1', vt1', vk1', vw1', vh2', vl2', vm2', ve2', vb2', vt2', vk2', vw2', vh3', vl3', vm3', ve3', vb3', vt3', vk3', vw3', r, 0, msv', mst', msk', ?_, Or.inl rfl, fun h => absurd rfl h, ?_, rfl, fun _ => rfl, sim_mk c7 g3 h.2.2⟩
  · unfold mX7_remove mX7_requireInTown
    rw [a1, e1, c1, if_pos rfl, Option.bind_some, if_neg c2, Option.bind_some, if_pos rfl, g1]
    simp only [Option.bind_some]
    rw [c5]
    rfl
  · unfold mX8_remove mX8_whyNotThere
    rw [a2, e2, c3, if_neg (by decide), Option.bind_some, Option.bind_some, if_neg c4, if_pos (by decide), g2]
    simp only [Option.bind_some]
    rw [c6]
    rfl
set_option maxHeartbeats 4000000 in
theorem sim_S2 {hv L mv ev bu td : Int32} {ks ws pa ca ra ni wi ho lv : Nat → Int32} {yhv yL ymv yev ybu ytd : Int32} {yks yws ypa yca yra yni ywi yho ylv : Nat → Int32} {nx sz vh0 vl0 vm0 ve0 vb0 vt0 : Int32} {vk0 vw0 : Nat → Int32} {vh1 vl1 vm1 ve1 vb1 vt1 : Int32} {vk1 vw1 : Nat → Int32} {vh2 vl2 vm2 ve2 vb2 vt2 : Int32} {vk2 vw2 : Nat → Int32} {vh3 vl3 vm3 ve3 vb3 vt3 : Int32} {vk3 vw3 : Nat → Int32} {tl : Int32} {sg : Nat → Int32} {qi qk ql qn qu qd mth msv mtl mpl msg mrl mrn mru : Int32} {mst mkp msk mtx : Nat → Int32} (h : Sim hv L mv ev bu td ks ws pa ca ra ni wi ho lv yhv yL ymv yev ybu ytd yks yws ypa yca yra yni ywi yho ylv nx sz vh0 vl0 vm0 ve0 vb0 vt0 vk0 vw0 vh1 vl1 vm1 ve1 vb1 vt1 vk1 vw1 vh2 vl2 vm2 ve2 vb2 vt2 vk2 vw2 vh3 vl3 vm3 ve3 vb3 vt3 vk3 vw3 tl sg qi qk ql qn qu qd mth msv mtl mpl msg mrl mrn mru mst mkp msk mtx) (p1 p2 p3 : Int32) : Step_c2 Sim hv L mv ev bu td ks ws pa ca ra ni wi ho lv yhv yL ymv yev ybu ytd yks yws ypa yca yra yni ywi yho ylv nx sz vh0 vl0 vm0 ve0 vb0 vt0 vk0 vw0 vh1 vl1 vm1 ve1 vb1 vt1 vk1 vw1 vh2 vl2 vm2 ve2 vb2 vt2 vk2 vw2 vh3 vl3 vm3 ve3 vb3 vt3 vk3 vw3 tl sg qi qk ql qn qu qd mth msv mtl mpl msg mrl mrn mru mst mkp msk mtx p1 p2 p3 := by
  unfold Step_c2
  rcases rn_c p1 p2 with ⟨a1, a2⟩ | ⟨a1, a2, a, l, l0, l8, v, vl, e1, e2⟩
  · refine ⟨1, 0, ws, pa, ca, ra, ni, wi, ho, nx, sz, vh0, vl0, vm0, ve0, vb0, vt0, vk0, vw0, vh1, vl1, vm1, ve1, vb1, vt1, vk1, vw1, vh2, vl2, vm2, ve2, vb2, vt2, vk2, vw2, vh3, vl3, vm3, ve3, vb3, vt3, vk3, vw3, 0, 1, msv, mst, msk, ?_, Or.inr (Or.inl rfl), fun _ => ⟨rfl, rfl, rfl, rfl, rfl, rfl, rfl, rfl, rfl, rfl, rfl, rfl, rfl, rfl, rfl, rfl, rfl, rfl, rfl, rfl, rfl, rfl, rfl, rfl, rfl, rfl, rfl, rfl, rfl, rfl, rfl, rfl, rfl, rfl, rfl, rfl, rfl, rfl, rfl, rfl, rfl⟩, ?_, rfl, fun h => absurd h (by decide), sim_mk h.1 h.2.1 h.2.2⟩
    · unfold mX7_setWeight
      rw [a1]
      rfl
    · unfold mX8_setWeight mX8_whyNotThere
      rcases rw_c p3 with ⟨b1, b2⟩ | ⟨b1, b2, b3⟩
      · rw [b2]
        rfl
      · rw [a2, b2]
        rfl
  rcases rw_c p3 with ⟨b1, b2⟩ | ⟨b1, b2, b3⟩
  · refine ⟨1, 0, ws, pa, ca, ra, ni, wi, ho, nx, sz, vh0, vl0, vm0, ve0, vb0, vt0, vk0, vw0, vh1, vl1, vm1, ve1, vb1, vt1, vk1, vw1, vh2, vl2, vm2, ve2, vb2, vt2, vk2, vw2, vh3, vl3, vm3, ve3, vb3, vt3, vk3, vw3, 0, 1, msv, mst, msk, ?_, Or.inr (Or.inl rfl), fun _ => ⟨rfl, rfl, rfl, rfl, rfl, rfl, rfl, rfl, rfl, rfl, rfl, rfl, rfl, rfl, rfl, rfl, rfl, rfl, rfl, rfl, rfl, rfl, rfl, rfl, rfl, rfl, rfl, rfl, rfl, rfl, rfl, rfl, rfl, rfl, rfl, rfl, rfl, rfl, rfl, rfl, rfl⟩, ?_, rfl, fun h => absurd h (by decide), sim_mk h.1 h.2.1 h.2.2⟩
    · unfold mX7_setWeight
      rw [a1, b1]
      rfl
    · unfold mX8_setWeight
      rw [b2]
      rfl
  rcases h.1.setw v b3 with ⟨c1, c2⟩ | ⟨x, u, c1, c2, c3, c4, ws', pa', ca', ra', ni', wi', ho', mst', c5, c6, c7, c8⟩
  · refine ⟨2, 0, ws, pa, ca, ra, ni, wi, ho, nx, sz, vh0, vl0, vm0, ve0, vb0, vt0, vk0, vw0, vh1, vl1, vm1, ve1, vb1, vt1, vk1, vw1, vh2, vl2, vm2, ve2, vb2, vt2, vk2, vw2, vh3, vl3, vm3, ve3, vb3, vt3, vk3, vw3, 0, 2, msv, mst, msk, ?_, Or.inr (Or.inr rfl), fun _ => ⟨rfl, rfl, rfl, rfl, rfl, rfl, rfl, rfl, rfl, rfl, rfl, rfl, rfl, rfl, rfl, rfl, rfl, rfl, rfl, rfl, rfl, rfl, rfl, rfl, rfl, rfl, rfl, rfl, rfl, rfl, rfl, rfl, rfl, rfl, rfl, rfl, rfl, rfl, rfl, rfl, rfl⟩, ?_, rfl, fun h => absurd h (by decide), sim_mk h.1 h.2.1 h.2.2⟩
    · unfold mX7_setWeight mX7_requireInTown
      rw [a1, b1, e1, c1]
      rfl
    · unfold mX8_setWeight mX8_whyNotThere
      rw [b2, a2, e2, c2]
      rfl
  obtain ⟨nx', sz', vh0', vl0', vm0', ve0', vb0', vt0', vk0', vw0', vh1', vl1', vm1', ve1', vb1', vt1', vk1', vw1', vh2', vl2', vm2', ve2', vb2', vt2', vk2', vw2', vh3', vl3', vm3', ve3', vb3', vt3', vk3', vw3', msv', msk', g1, g2, g3⟩ := push_c h.2.1 h.1.state
  refine ⟨0, x, ws', pa', ca', ra', ni', wi', ho', nx', sz', vh0', vl0', vm0', ve0', vb0', vt0', vk0', vw0', vh1', vl1', vm1', ve1', vb1', vt1', vk1', vw1', vh2', vl2', vm2', ve2', vb2', vt2', vk2', vw2', vh3', vl3', vm3', ve3', vb3', vt3', vk3', vw3', x, 0, msv', mst', msk', ?_, Or.inl rfl, fun h => absurd rfl h, ?_, rfl, fun _ => rfl, sim_mk c8 g3 h.2.2⟩
  · unfold mX7_setWeight mX7_requireInTown
    rw [a1, b1, e1, c1, if_pos rfl, if_pos rfl, Option.bind_some, if_neg c2, Option.bind_some, if_pos rfl, g1]
    simp only [Option.bind_some]
    rw [c5]
    rfl
  · unfold mX8_setWeight mX8_whyNotThere
    rw [a2, b2, e2, c3, if_neg (by decide), if_neg (by decide), Option.bind_some, Option.bind_some, if_neg c4, if_pos (by decide), g2]
    simp only [Option.bind_some]
    rw [c6, Option.bind_some, c7]
    rfl
set_option maxHeartbeats 4000000 in
theorem sim_S3 {hv L mv ev bu td : Int32} {ks ws pa ca ra ni wi ho lv : Nat → Int32} {yhv yL ymv yev ybu ytd : Int32} {yks yws ypa yca yra yni ywi yho ylv : Nat → Int32} {nx sz vh0 vl0 vm0 ve0 vb0 vt0 : Int32} {vk0 vw0 : Nat → Int32} {vh1 vl1 vm1 ve1 vb1 vt1 : Int32} {vk1 vw1 : Nat → Int32} {vh2 vl2 vm2 ve2 vb2 vt2 : Int32} {vk2 vw2 : Nat → Int32} {vh3 vl3 vm3 ve3 vb3 vt3 : Int32} {vk3 vw3 : Nat → Int32} {tl : Int32} {sg : Nat → Int32} {qi qk ql qn qu qd mth msv mtl mpl msg mrl mrn mru : Int32} {mst mkp msk mtx : Nat → Int32} (h : Sim hv L mv ev bu td ks ws pa ca ra ni wi ho lv yhv yL ymv yev ybu ytd yks yws ypa yca yra yni ywi yho ylv nx sz vh0 vl0 vm0 ve0 vb0 vt0 vk0 vw0 vh1 vl1 vm1 ve1 vb1 vt1 vk1 vw1 vh2 vl2 vm2 ve2 vb2 vt2 vk2 vw2 vh3 vl3 vm3 ve3 vb3 vt3 vk3 vw3 tl sg qi qk ql qn qu qd mth msv mtl mpl msg mrl mrn mru mst mkp msk mtx) (p1 : Int32) : Step_c3 Sim hv L mv ev bu td ks ws pa ca ra ni wi ho lv yhv yL ymv yev ybu ytd yks yws ypa yca yra yni ywi yho ylv nx sz vh0 vl0 vm0 ve0 vb0 vt0 vk0 vw0 vh1 vl1 vm1 ve1 vb1 vt1 vk1 vw1 vh2 vl2 vm2 ve2 vb2 vt2 vk2 vw2 vh3 vl3 vm3 ve3 vb3 vt3 vk3 vw3 tl sg qi qk ql qn qu qd mth msv mtl mpl msg mrl mrn mru mst mkp msk mtx p1 := by
  unfold Step_c3
  rcases rl_c p1 with ⟨a1, a2⟩ | ⟨a1, a2⟩
  · refine ⟨1, 0, L, nx, sz, vh0, vl0, vm0, ve0, vb0, vt0, vk0, vw0, vh1, vl1, vm1, ve1, vb1, vt1, vk1, vw1, vh2, vl2, vm2, ve2, vb2, vt2, vk2, vw2, vh3, vl3, vm3, ve3, vb3, vt3, vk3, vw3, 0, 1, msv, mst, msk, ?_, Or.inr rfl, fun _ => ⟨rfl, rfl, rfl, rfl, rfl, rfl, rfl, rfl, rfl, rfl, rfl, rfl, rfl, rfl, rfl, rfl, rfl, rfl, rfl, rfl, rfl, rfl, rfl, rfl, rfl, rfl, rfl, rfl, rfl, rfl, rfl, rfl, rfl, rfl, rfl⟩, ?_, rfl, fun h => absurd h (by decide), sim_mk h.1 h.2.1 h.2.2⟩
    · unfold mX7_setLimit
      rw [a1]
      rfl
    · unfold mX8_setLimit
      rw [a2]
      rfl
  obtain ⟨nx', sz', vh0', vl0', vm0', ve0', vb0', vt0', vk0', vw0', vh1', vl1', vm1', ve1', vb1', vt1', vk1', vw1', vh2', vl2', vm2', ve2', vb2', vt2', vk2', vw2', vh3', vl3', vm3', ve3', vb3', vt3', vk3', vw3', msv', msk', g1, g2, g3⟩ := push_c h.2.1 h.1.state
  refine ⟨0, L, p1, nx', sz', vh0', vl0', vm0', ve0', vb0', vt0', vk0', vw0', vh1', vl1', vm1', ve1', vb1', vt1', vk1', vw1', vh2', vl2', vm2', ve2', vb2', vt2', vk2', vw2', vh3', vl3', vm3', ve3', vb3', vt3', vk3', vw3', mst 0, 0, msv', upd mst 0 p1, msk', ?_, Or.inl rfl, fun h => absurd rfl h, ?_, rfl, fun _ => ?_, sim_mk (h.1.lim p1) g3 h.2.2⟩
  · unfold mX7_setLimit
    rw [a1, if_pos rfl, g1]
    rfl
  · unfold mX8_setLimit
    rw [a2, if_pos (by decide), g2]
    rfl
  · obtain ⟨H, k, C, N, n, W, _, _, _, _, _, e0, _⟩ := h.1
    exact e0
