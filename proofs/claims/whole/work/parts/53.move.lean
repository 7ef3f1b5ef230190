set_option maxHeartbeats 4000000 in
theorem sim_S4 {hv L mv ev bu td : Int32} {ks ws pa ca ra ni wi ho lv : Nat → Int32} {yhv yL ymv yev ybu ytd : Int32} {yks yws ypa yca yra yni ywi yho ylv : Nat → Int32} {nx sz vh0 vl0 vm0 ve0 vb0 vt0 : Int32} {vk0 vw0 : Nat → Int32} {vh1 vl1 vm1 ve1 vb1 vt1 : Int32} {vk1 vw1 : Nat → Int32} {vh2 vl2 vm2 ve2 vb2 vt2 : Int32} {vk2 vw2 : Nat → Int32} {vh3 vl3 vm3 ve3 vb3 vt3 : Int32} {vk3 vw3 : Nat → Int32} {tl : Int32} {sg : Nat → Int32} {qi qk ql qn qu qd mth msv mtl mpl msg mrl mrn mru : Int32} {mst mkp msk mtx : Nat → Int32} (h : Sim hv L mv ev bu td ks ws pa ca ra ni wi ho lv yhv yL ymv yev ybu ytd yks yws ypa yca yra yni ywi yho ylv nx sz vh0 vl0 vm0 ve0 vb0 vt0 vk0 vw0 vh1 vl1 vm1 ve1 vb1 vt1 vk1 vw1 vh2 vl2 vm2 ve2 vb2 vt2 vk2 vw2 vh3 vl3 vm3 ve3 vb3 vt3 vk3 vw3 tl sg qi qk ql qn qu qd mth msv mtl mpl msg mrl mrn mru mst mkp msk mtx) (p1 p2 : Int32) : Step_c4 Sim hv L mv ev bu td ks ws pa ca ra ni wi ho lv yhv yL ymv yev ybu ytd yks yws ypa yca yra yni ywi yho ylv nx sz vh0 vl0 vm0 ve0 vb0 vt0 vk0 vw0 vh1 vl1 vm1 ve1 vb1 vt1 vk1 vw1 vh2 vl2 vm2 ve2 vb2 vt2 vk2 vw2 vh3 vl3 vm3 ve3 vb3 vt3 vk3 vw3 tl sg qi qk ql qn qu qd mth msv mtl mpl msg mrl mrn mru mst mkp msk mtx p1 p2 := by
  unfold Step_c4
  rcases rp_c p1 p2 with ⟨a1, a2⟩ | ⟨a1, a2, a, l, l8, v, vl, e1, e2⟩
  · refine ⟨1, 0, hv, mv, ks, ws, pa, ca, ra, ni, wi, ho, nx, sz, vh0, vl0, vm0, ve0, vb0, vt0, vk0, vw0, vh1, vl1, vm1, ve1, vb1, vt1, vk1, vw1, vh2, vl2, vm2, ve2, vb2, vt2, vk2, vw2, vh3, vl3, vm3, ve3, vb3, vt3, vk3, vw3, 0, 1, msv, mst, msk, ?_, Or.inr (Or.inl rfl), fun _ => ⟨rfl, rfl, rfl, rfl, rfl, rfl, rfl, rfl, rfl, rfl, rfl, rfl, rfl, rfl, rfl, rfl, rfl, rfl, rfl, rfl, rfl, rfl, rfl, rfl, rfl, rfl, rfl, rfl, rfl, rfl, rfl, rfl, rfl, rfl, rfl, rfl, rfl, rfl, rfl, rfl, rfl, rfl, rfl, rfl⟩, ?_, rfl, fun h => absurd h (by decide), sim_mk h.1 h.2.1 h.2.2⟩
    · unfold mX7_moveIn
      rw [a1]
      rfl
    · unfold mX8_moveIn mX8_whyNotMoved
      rw [a2]
      rfl
  rcases h.1.move v with ⟨c1, c2⟩ | ⟨c1, i, c2, c3, c4, r, hv', mv', ks', ws', pa', ca', ra', ni', wi', ho', mst', c5, c6, c7⟩
  · refine ⟨2, 0, hv, mv, ks, ws, pa, ca, ra, ni, wi, ho, nx, sz, vh0, vl0, vm0, ve0, vb0, vt0, vk0, vw0, vh1, vl1, vm1, ve1, vb1, vt1, vk1, vw1, vh2, vl2, vm2, ve2, vb2, vt2, vk2, vw2, vh3, vl3, vm3, ve3, vb3, vt3, vk3, vw3, 0, 2, msv, mst, msk, ?_, Or.inr (Or.inr rfl), fun _ => ⟨rfl, rfl, rfl, rfl, rfl, rfl, rfl, rfl, rfl, rfl, rfl, rfl, rfl, rfl, rfl, rfl, rfl, rfl, rfl, rfl, rfl, rfl, rfl, rfl, rfl, rfl, rfl, rfl, rfl, rfl, rfl, rfl, rfl, rfl, rfl, rfl, rfl, rfl, rfl, rfl, rfl, rfl, rfl, rfl⟩, ?_, rfl, fun h => absurd h (by decide), sim_mk h.1 h.2.1 h.2.2⟩
    · unfold mX7_moveIn
      rw [a1, e1, c1]
      rfl
    · unfold mX8_moveIn mX8_whyNotMoved
      rcases c2 with c2 | ⟨i, y, c2, c3, c4, c5⟩
      · rw [a2, e2, c2]
        rfl
      · rw [a2, e2, c2, if_neg (by decide), Option.bind_some, if_neg c3, c4, Option.bind_some, if_neg c5]
        rfl
  obtain ⟨nx', sz', vh0', vl0', vm0', ve0', vb0', vt0', vk0', vw0', vh1', vl1', vm1', ve1', vb1', vt1', vk1', vw1', vh2', vl2', vm2', ve2', vb2', vt2', vk2', vw2', vh3', vl3', vm3', ve3', vb3', vt3', vk3', vw3', msv', msk', g1, g2, g3⟩ := push_c h.2.1 h.1.state
  refine ⟨0, r, hv', mv', ks', ws', pa', ca', ra', ni', wi', ho', nx', sz', vh0', vl0', vm0', ve0', vb0', vt0', vk0', vw0', vh1', vl1', vm1', ve1', vb1', vt1', vk1', vw1', vh2', vl2', vm2', ve2', vb2', vt2', vk2', vw2', vh3', vl3', vm3', ve3', vb3', vt3', vk3', vw3', r, 0, msv', mst', msk', ?_, Or.inl rfl, fun h => absurd rfl h, ?_, rfl, fun _ => rfl, sim_mk c7 g3 h.2.2⟩
  · unfold mX7_moveIn
    rw [a1, e1, c1, if_pos rfl, Option.bind_some, if_neg (by decide), g1]
    simp only [Option.bind_some]
    rw [c5]
    rfl
  · unfold mX8_moveIn mX8_whyNotMoved
    rw [a2, e2, c2, if_neg (by decide), Option.bind_some, if_neg c3, c4, Option.bind_some, Option.bind_some, if_pos (by decide), g2]
    simp only [Option.bind_some]
    rw [c6]
    rfl
set_option maxHeartbeats 4000000 in
theorem sim_S5 {hv L mv ev bu td : Int32} {ks ws pa ca ra ni wi ho lv : Nat → Int32} {yhv yL ymv yev ybu ytd : Int32} {yks yws ypa yca yra yni ywi yho ylv : Nat → Int32} {nx sz vh0 vl0 vm0 ve0 vb0 vt0 : Int32} {vk0 vw0 : Nat → Int32} {vh1 vl1 vm1 ve1 vb1 vt1 : Int32} {vk1 vw1 : Nat → Int32} {vh2 vl2 vm2 ve2 vb2 vt2 : Int32} {vk2 vw2 : Nat → Int32} {vh3 vl3 vm3 ve3 vb3 vt3 : Int32} {vk3 vw3 : Nat → Int32} {tl : Int32} {sg : Nat → Int32} {qi qk ql qn qu qd mth msv mtl mpl msg mrl mrn mru : Int32} {mst mkp msk mtx : Nat → Int32} (h : Sim hv L mv ev bu td ks ws pa ca ra ni wi ho lv yhv yL ymv yev ybu ytd yks yws ypa yca yra yni ywi yho ylv nx sz vh0 vl0 vm0 ve0 vb0 vt0 vk0 vw0 vh1 vl1 vm1 ve1 vb1 vt1 vk1 vw1 vh2 vl2 vm2 ve2 vb2 vt2 vk2 vw2 vh3 vl3 vm3 ve3 vb3 vt3 vk3 vw3 tl sg qi qk ql qn qu qd mth msv mtl mpl msg mrl mrn mru mst mkp msk mtx) (p1 p2 : Int32) : Step_c5 Sim hv L mv ev bu td ks ws pa ca ra ni wi ho lv yhv yL ymv yev ybu ytd yks yws ypa yca yra yni ywi yho ylv nx sz vh0 vl0 vm0 ve0 vb0 vt0 vk0 vw0 vh1 vl1 vm1 ve1 vb1 vt1 vk1 vw1 vh2 vl2 vm2 ve2 vb2 vt2 vk2 vw2 vh3 vl3 vm3 ve3 vb3 vt3 vk3 vw3 tl sg qi qk ql qn qu qd mth msv mtl mpl msg mrl mrn mru mst mkp msk mtx p1 p2 := by
  unfold Step_c5
  rcases rp_c p1 p2 with ⟨a1, a2⟩ | ⟨a1, a2, a, l, l8, v, vl, e1, e2⟩
  · refine ⟨1, 0, hv, ev, ks, ws, pa, ca, ra, ni, wi, ho, nx, sz, vh0, vl0, vm0, ve0, vb0, vt0, vk0, vw0, vh1, vl1, vm1, ve1, vb1, vt1, vk1, vw1, vh2, vl2, vm2, ve2, vb2, vt2, vk2, vw2, vh3, vl3, vm3, ve3, vb3, vt3, vk3, vw3, 0, 1, msv, mst, msk, ?_, Or.inr (Or.inl rfl), fun _ => ⟨rfl, rfl, rfl, rfl, rfl, rfl, rfl, rfl, rfl, rfl, rfl, rfl, rfl, rfl, rfl, rfl, rfl, rfl, rfl, rfl, rfl, rfl, rfl, rfl, rfl, rfl, rfl, rfl, rfl, rfl, rfl, rfl, rfl, rfl, rfl, rfl, rfl, rfl, rfl, rfl, rfl, rfl, rfl, rfl⟩, ?_, rfl, fun h => absurd h (by decide), sim_mk h.1 h.2.1 h.2.2⟩
    · unfold mX7_evict
      rw [a1]
      rfl
    · unfold mX8_evict mX8_whyNotEvicted
      rw [a2]
      rfl
  rcases h.1.evict v with ⟨c1, c2⟩ | ⟨c1, c2, c3, r, hv', ev', ks', ws', pa', ca', ra', ni', wi', ho', mst', c5, c6, c7⟩
  · refine ⟨2, 0, hv, ev, ks, ws, pa, ca, ra, ni, wi, ho, nx, sz, vh0, vl0, vm0, ve0, vb0, vt0, vk0, vw0, vh1, vl1, vm1, ve1, vb1, vt1, vk1, vw1, vh2, vl2, vm2, ve2, vb2, vt2, vk2, vw2, vh3, vl3, vm3, ve3, vb3, vt3, vk3, vw3, 0, 2, msv, mst, msk, ?_, Or.inr (Or.inr rfl), fun _ => ⟨rfl, rfl, rfl, rfl, rfl, rfl, rfl, rfl, rfl, rfl, rfl, rfl, rfl, rfl, rfl, rfl, rfl, rfl, rfl, rfl, rfl, rfl, rfl, rfl, rfl, rfl, rfl, rfl, rfl, rfl, rfl, rfl, rfl, rfl, rfl, rfl, rfl, rfl, rfl, rfl, rfl, rfl, rfl, rfl⟩, ?_, rfl, fun h => absurd h (by decide), sim_mk h.1 h.2.1 h.2.2⟩
    · unfold mX7_evict
      rw [a1, e1, c1]
      rfl
    · unfold mX8_evict mX8_whyNotEvicted
      rcases c2 with c2 | ⟨i, c2, c3, c4⟩
      · rw [a2, e2, c2]
        rfl
      · rw [a2, e2, c2, if_neg (by decide), Option.bind_some, if_neg (by decide), c3, Option.bind_some, if_neg c4]
        rfl
  obtain ⟨nx', sz', vh0', vl0', vm0', ve0', vb0', vt0', vk0', vw0', vh1', vl1', vm1', ve1', vb1', vt1', vk1', vw1', vh2', vl2', vm2', ve2', vb2', vt2', vk2', vw2', vh3', vl3', vm3', ve3', vb3', vt3', vk3', vw3', msv', msk', g1, g2, g3⟩ := push_c h.2.1 h.1.state
  refine ⟨0, r, hv', ev', ks', ws', pa', ca', ra', ni', wi', ho', nx', sz', vh0', vl0', vm0', ve0', vb0', vt0', vk0', vw0', vh1', vl1', vm1', ve1', vb1', vt1', vk1', vw1', vh2', vl2', vm2', ve2', vb2', vt2', vk2', vw2', vh3', vl3', vm3', ve3', vb3', vt3', vk3', vw3', r, 0, msv', mst', msk', ?_, Or.inl rfl, fun h => absurd rfl h, ?_, rfl, fun _ => rfl, sim_mk c7 g3 h.2.2⟩
  · unfold mX7_evict
    rw [a1, e1, c1, if_pos rfl, Option.bind_some, if_neg (by decide), g1]
    simp only [Option.bind_some]
    rw [c5]
    rfl
  · unfold mX8_evict mX8_whyNotEvicted
    rw [a2, e2, c2, if_neg (by decide), Option.bind_some, if_neg (by decide), c3, Option.bind_some, Option.bind_some, if_pos rfl, if_pos (by decide), g2]
    simp only [Option.bind_some]
    rw [c6]
    rfl
set_option maxHeartbeats 4000000 in
theorem sim_S6 {hv L mv ev bu td : Int32} {ks ws pa ca ra ni wi ho lv : Nat → Int32} {yhv yL ymv yev ybu ytd : Int32} {yks yws ypa yca yra yni ywi yho ylv : Nat → Int32} {nx sz vh0 vl0 vm0 ve0 vb0 vt0 : Int32} {vk0 vw0 : Nat → Int32} {vh1 vl1 vm1 ve1 vb1 vt1 : Int32} {vk1 vw1 : Nat → Int32} {vh2 vl2 vm2 ve2 vb2 vt2 : Int32} {vk2 vw2 : Nat → Int32} {vh3 vl3 vm3 ve3 vb3 vt3 : Int32} {vk3 vw3 : Nat → Int32} {tl : Int32} {sg : Nat → Int32} {qi qk ql qn qu qd mth msv mtl mpl msg mrl mrn mru : Int32} {mst mkp msk mtx : Nat → Int32} (h : Sim hv L mv ev bu td ks ws pa ca ra ni wi ho lv yhv yL ymv yev ybu ytd yks yws ypa yca yra yni ywi yho ylv nx sz vh0 vl0 vm0 ve0 vb0 vt0 vk0 vw0 vh1 vl1 vm1 ve1 vb1 vt1 vk1 vw1 vh2 vl2 vm2 ve2 vb2 vt2 vk2 vw2 vh3 vl3 vm3 ve3 vb3 vt3 vk3 vw3 tl sg qi qk ql qn qu qd mth msv mtl mpl msg mrl mrn mru mst mkp msk mtx) : Step_c6 Sim hv L mv ev bu td ks ws pa ca ra ni wi ho lv yhv yL ymv yev ybu ytd yks yws ypa yca yra yni ywi yho ylv nx sz vh0 vl0 vm0 ve0 vb0 vt0 vk0 vw0 vh1 vl1 vm1 ve1 vb1 vt1 vk1 vw1 vh2 vl2 vm2 ve2 vb2 vt2 vk2 vw2 vh3 vl3 vm3 ve3 vb3 vt3 vk3 vw3 tl sg qi qk ql qn qu qd mth msv mtl mpl msg mrl mrn mru mst mkp msk mtx := by
  unfold Step_c6
  obtain ⟨r, hv', mv', ks', ws', pa', ca', ra', ni', wi', ho', lv', mst', c1, c2, c3⟩ := h.1.comp lv
  obtain ⟨nx', sz', vh0', vl0', vm0', ve0', vb0', vt0', vk0', vw0', vh1', vl1', vm1', ve1', vb1', vt1', vk1', vw1', vh2', vl2', vm2', ve2', vb2', vt2', vk2', vw2', vh3', vl3', vm3', ve3', vb3', vt3', vk3', vw3', msv', msk', g1, g2, g3⟩ := push_c h.2.1 h.1.state
  refine ⟨r, hv', mv', ks', ws', pa', ca', ra', ni', wi', ho', lv', nx', sz', vh0', vl0', vm0', ve0', vb0', vt0', vk0', vw0', vh1', vl1', vm1', ve1', vb1', vt1', vk1', vw1', vh2', vl2', vm2', ve2', vb2', vt2', vk2', vw2', vh3', vl3', vm3', ve3', vb3', vt3', vk3', vw3', r, 0, msv', mst', msk', ?_, ?_, rfl, sim_mk c3 g3 h.2.2⟩
  · unfold mX7_compress
    rw [g1]
    simp only [Option.bind_some]
    rw [c1]
    rfl
  · unfold mX8_compress
    rw [g2]
    simp only [Option.bind_some]
    rw [c2]
    rfl
set_option maxHeartbeats 4000000 in
theorem sim_S7 {hv L mv ev bu td : Int32} {ks ws pa ca ra ni wi ho lv : Nat → Int32} {yhv yL ymv yev ybu ytd : Int32} {yks yws ypa yca yra yni ywi yho ylv : Nat → Int32} {nx sz vh0 vl0 vm0 ve0 vb0 vt0 : Int32} {vk0 vw0 : Nat → Int32} {vh1 vl1 vm1 ve1 vb1 vt1 : Int32} {vk1 vw1 : Nat → Int32} {vh2 vl2 vm2 ve2 vb2 vt2 : Int32} {vk2 vw2 : Nat → Int32} {vh3 vl3 vm3 ve3 vb3 vt3 : Int32} {vk3 vw3 : Nat → Int32} {tl : Int32} {sg : Nat → Int32} {qi qk ql qn qu qd mth msv mtl mpl msg mrl mrn mru : Int32} {mst mkp msk mtx : Nat → Int32} (h : Sim hv L mv ev bu td ks ws pa ca ra ni wi ho lv yhv yL ymv yev ybu ytd yks yws ypa yca yra yni ywi yho ylv nx sz vh0 vl0 vm0 ve0 vb0 vt0 vk0 vw0 vh1 vl1 vm1 ve1 vb1 vt1 vk1 vw1 vh2 vl2 vm2 ve2 vb2 vt2 vk2 vw2 vh3 vl3 vm3 ve3 vb3 vt3 vk3 vw3 tl sg qi qk ql qn qu qd mth msv mtl mpl msg mrl mrn mru mst mkp msk mtx) : Step_c7 Sim hv L mv ev bu td ks ws pa ca ra ni wi ho lv yhv yL ymv yev ybu ytd yks yws ypa yca yra yni ywi yho ylv nx sz vh0 vl0 vm0 ve0 vb0 vt0 vk0 vw0 vh1 vl1 vm1 ve1 vb1 vt1 vk1 vw1 vh2 vl2 vm2 ve2 vb2 vt2 vk2 vw2 vh3 vl3 vm3 ve3 vb3 vt3 vk3 vw3 tl sg qi qk ql qn qu qd mth msv mtl mpl msg mrl mrn mru mst mkp msk mtx := by
  unfold Step_c7
  obtain ⟨r, hv', ev', ks', ws', pa', ca', ra', ni', wi', ho', mst', c1, c2, c3⟩ := h.1.exp
  obtain ⟨nx', sz', vh0', vl0', vm0', ve0', vb0', vt0', vk0', vw0', vh1', vl1', vm1', ve1', vb1', vt1', vk1', vw1', vh2', vl2', vm2', ve2', vb2', vt2', vk2', vw2', vh3', vl3', vm3', ve3', vb3', vt3', vk3', vw3', msv', msk', g1, g2, g3⟩ := push_c h.2.1 h.1.state
  refine ⟨r, hv', ev', ks', ws', pa', ca', ra', ni', wi', ho', nx', sz', vh0', vl0', vm0', ve0', vb0', vt0', vk0', vw0', vh1', vl1', vm1', ve1', vb1', vt1', vk1', vw1', vh2', vl2', vm2', ve2', vb2', vt2', vk2', vw2', vh3', vl3', vm3', ve3', vb3', vt3', vk3', vw3', r, 0, msv', mst', msk', ?_, ?_, rfl, sim_mk c3 g3 h.2.2⟩
  · unfold mX7_expand
    rw [g1]
    simp only [Option.bind_some]
    rw [c1]
    rfl
  · unfold mX8_expand
    rw [g2]
    simp only [Option.bind_some]
    rw [c2]
    rfl
