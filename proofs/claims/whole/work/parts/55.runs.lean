set_option maxHeartbeats 4000000 in
theorem sim_S25 {hv L mv ev bu td : Int32} {ks ws pa ca ra ni wi ho lv : Nat → Int32} {yhv yL ymv yev ybu ytd : Int32} {yks yws ypa yca yra yni ywi yho ylv : Nat → Int32} {nx sz vh0 vl0 vm0 ve0 vb0 vt0 : Int32} {vk0 vw0 : Nat → Int32} {vh1 vl1 vm1 ve1 vb1 vt1 : Int32} {vk1 vw1 : Nat → Int32} {vh2 vl2 vm2 ve2 vb2 vt2 : Int32} {vk2 vw2 : Nat → Int32} {vh3 vl3 vm3 ve3 vb3 vt3 : Int32} {vk3 vw3 : Nat → Int32} {tl : Int32} {sg : Nat → Int32} {qi qk ql qn qu qd mth msv mtl mpl msg mrl mrn mru : Int32} {mst mkp msk mtx : Nat → Int32} (h : Sim hv L mv ev bu td ks ws pa ca ra ni wi ho lv yhv yL ymv yev ybu ytd yks yws ypa yca yra yni ywi yho ylv nx sz vh0 vl0 vm0 ve0 vb0 vt0 vk0 vw0 vh1 vl1 vm1 ve1 vb1 vt1 vk1 vw1 vh2 vl2 vm2 ve2 vb2 vt2 vk2 vw2 vh3 vl3 vm3 ve3 vb3 vt3 vk3 vw3 tl sg qi qk ql qn qu qd mth msv mtl mpl msg mrl mrn mru mst mkp msk mtx) : Step_c25 Sim hv L mv ev bu td ks ws pa ca ra ni wi ho lv yhv yL ymv yev ybu ytd yks yws ypa yca yra yni ywi yho ylv nx sz vh0 vl0 vm0 ve0 vb0 vt0 vk0 vw0 vh1 vl1 vm1 ve1 vb1 vt1 vk1 vw1 vh2 vl2 vm2 ve2 vb2 vt2 vk2 vw2 vh3 vl3 vm3 ve3 vb3 vt3 vk3 vw3 tl sg qi qk ql qn qu qd mth msv mtl mpl msg mrl mrn mru mst mkp msk mtx := by
  unfold Step_c25
  rcases pop_c h.2.1 hv L mv ev bu td ks ws mst with ⟨a1, a2⟩ | ⟨a1, a2, nx', sz', hv', L', mv', ev', bu', td', ks', ws', mst', c1, c2, c3, c4, c5⟩
  · refine ⟨2, 0, hv, L, mv, ev, bu, td, ks, ws, pa, ca, ra, ni, wi, ho, nx, sz, 0, 1, msv, mst, ?_, Or.inr rfl, fun _ => ⟨rfl, rfl, rfl, rfl, rfl, rfl, rfl, rfl, rfl, rfl, rfl, rfl, rfl, rfl, rfl, rfl⟩, ?_, rfl, fun h => absurd h (by decide), sim_mk h.1 h.2.1 h.2.2⟩
    · unfold mX7_undo mX6_size
      rw [if_pos a1]
    · unfold mX8_undo
      rw [a2]
      rfl
  obtain ⟨pa', ca', ra', ni', wi', ho', c6, c7⟩ := c4.survey pa ca ra ni wi ho
  refine ⟨0, sz', hv', L', mv', ev', bu', td', ks', ws', pa', ca', ra', ni', wi', ho', nx', sz', msv - 1, 0, msv - 1, mst', ?_, Or.inl rfl, fun h => absurd rfl h, ?_, rfl, fun _ => c2, sim_mk c7 c5 h.2.2⟩
  · unfold mX7_undo mX6_size
    rw [if_neg a1, c1]
    simp only [Option.bind_some]
    rw [c6]
    rfl
  · unfold mX8_undo
    rw [if_neg a2, if_pos (by decide), c3]
    rfl
set_option maxHeartbeats 4000000 in
theorem sim_S24 {hv L mv ev bu td : Int32} {ks ws pa ca ra ni wi ho lv : Nat → Int32} {yhv yL ymv yev ybu ytd : Int32} {yks yws ypa yca yra yni ywi yho ylv : Nat → Int32} {nx sz vh0 vl0 vm0 ve0 vb0 vt0 : Int32} {vk0 vw0 : Nat → Int32} {vh1 vl1 vm1 ve1 vb1 vt1 : Int32} {vk1 vw1 : Nat → Int32} {vh2 vl2 vm2 ve2 vb2 vt2 : Int32} {vk2 vw2 : Nat → Int32} {vh3 vl3 vm3 ve3 vb3 vt3 : Int32} {vk3 vw3 : Nat → Int32} {tl : Int32} {sg : Nat → Int32} {qi qk ql qn qu qd mth msv mtl mpl msg mrl mrn mru : Int32} {mst mkp msk mtx : Nat → Int32} (h : Sim hv L mv ev bu td ks ws pa ca ra ni wi ho lv yhv yL ymv yev ybu ytd yks yws ypa yca yra yni ywi yho ylv nx sz vh0 vl0 vm0 ve0 vb0 vt0 vk0 vw0 vh1 vl1 vm1 ve1 vb1 vt1 vk1 vw1 vh2 vl2 vm2 ve2 vb2 vt2 vk2 vw2 vh3 vl3 vm3 ve3 vb3 vt3 vk3 vw3 tl sg qi qk ql qn qu qd mth msv mtl mpl msg mrl mrn mru mst mkp msk mtx) : Step_c24 Sim hv L mv ev bu td ks ws pa ca ra ni wi ho lv yhv yL ymv yev ybu ytd yks yws ypa yca yra yni ywi yho ylv nx sz vh0 vl0 vm0 ve0 vb0 vt0 vk0 vw0 vh1 vl1 vm1 ve1 vb1 vt1 vk1 vw1 vh2 vl2 vm2 ve2 vb2 vt2 vk2 vw2 vh3 vl3 vm3 ve3 vb3 vt3 vk3 vw3 tl sg qi qk ql qn qu qd mth msv mtl mpl msg mrl mrn mru mst mkp msk mtx := by
  unfold Step_c24
  obtain ⟨T, t, x1, rfl, rfl, x4⟩ := h.2.2
  rcases fault_c (T := T) (tx := mtx) (sg := sg) (t := t) x1 (fun i hi => (x4 i hi).2.1) (fun i hi => (x4 i hi).1) (fun i hi => (x4 i hi).2.2) T 0 FU FU (0, qk, ql, qn, qu, qd) msg mrl mrn mru (by omega) (by unfold FU; omega) (by unfold FU; omega) rfl with ⟨c, d1, ⟨i1, k1, l1, n1, u1, g1⟩, sn1, rl1, rn1, ru1, d2, d3, d4⟩ | ⟨q, d1, ⟨i1, k1, l1, n1, u1, g1⟩, kk, y, sn1, rl1, rn1, ru1, d2, d3, d4⟩
  · dsimp only at d2 d3
    subst d2
    obtain ⟨nx', sz', vh0', vl0', vm0', ve0', vb0', vt0', vk0', vw0', vh1', vl1', vm1', ve1', vb1', vt1', vk1', vw1', vh2', vl2', vm2', ve2', vb2', vt2', vk2', vw2', vh3', vl3', vm3', ve3', vb3', vt3', vk3', vw3', msv', msk', z1, z2, z3⟩ := push_c h.2.1 h.1.state
    obtain ⟨k40, dn', i40, hv', L', mv', ev', bu', td', ks', ws', pa', ca', ra', ni', wi', ho', lv', mst', ⟨i2, k2, l2, n2, u2, g2⟩, x3, pl, sn2, rl2, rn2, ru2, e1, e2, e3, e4⟩ := run_c (T := T) (tx := mtx) (sg := sg) (t := t) x1 (fun i hi => (x4 i hi).1) c 0 FU FU 0 hv L mv ev bu td ks ws pa ca ra ni wi ho lv mst (0, k1, l1, n1, u1, g1) sn1 rl1 rn1 ru1 d1 (Nat.zero_le _) (by unfold FU; omega) (by unfold FU; omega) rfl h.1
    refine ⟨dn', hv', L', mv', ev', bu', td', ks', ws', pa', ca', ra', ni', wi', ho', lv', nx', sz', vh0', vl0', vm0', ve0', vb0', vt0', vk0', vw0', vh1', vl1', vm1', ve1', vb1', vt1', vk1', vw1', vh2', vl2', vm2', ve2', vb2', vt2', vk2', vw2', vh3', vl3', vm3', ve3', vb3', vt3', vk3', vw3', i2, k2, l2, n2, u2, g2, dn', 0, msv', pl, sn2, rl2, rn2, ru2, mst', msk', ?_, ?_, rfl, sim_mk e4 z3 h.2.2⟩
    · have hf : mX7_findFault (nI T) sg qk ql qn qu qd = some (-1, 0, k1, l1, n1, u1, g1) := by
        unfold mX7_findFault mX0_restart
        rw [Option.bind_some, show mX7_findFault_L9 (nI T) sg FU 0 0 qk ql qn qu qd = _ from d3]
        rfl
      unfold mX7_runCommands mX0_restart
      rw [hf]
      simp only [Option.bind_some]
      rw [if_pos trivial, z1]
      simp only [Option.bind_some]
      rw [show mX7_runCommands_L40 (nI T) sg FU (0, 0, hv, L, mv, ev, bu, td, ks, ws, pa, ca, ra, ni, wi, ho, lv, 0, k1, l1, n1, u1, g1) = _ from e1]
      simp only [Option.bind_some]
      rw [ite_self]
    · unfold mX8_runCommands
      rw [show mX8_runCommands_L12 (nI T) mtx FU 1 0 msg mrl mrn mru = _ from d4]
      simp only [Option.bind_some]
      rw [if_neg (by decide), z2]
      simp only [Option.bind_some]
      rw [show mX8_runCommands_L60 (nI T) mtx FU 0 1 0 sn1 rl1 rn1 ru1 mst = _ from e3]
      rfl
  · have hf : mX7_findFault (nI T) sg qk ql qn qu qd = some (nI q, i1, k1, l1, n1, u1, g1) := by
      unfold mX7_findFault mX0_restart
      rw [Option.bind_some, show mX7_findFault_L9 (nI T) sg FU 0 0 qk ql qn qu qd = _ from d2]
      simp only [Option.bind_some]
      rcases d3 with ⟨rfl, rfl⟩ | ⟨rfl, rfl, d5⟩
      · rfl
      · dsimp only at d5
        subst d5
        rfl
    refine ⟨-10 - nI q, hv, L, mv, ev, bu, td, ks, ws, pa, ca, ra, ni, wi, ho, lv, nx, sz, vh0, vl0, vm0, ve0, vb0, vt0, vk0, vw0, vh1, vl1, vm1, ve1, vb1, vt1, vk1, vw1, vh2, vl2, vm2, ve2, vb2, vt2, vk2, vw2, vh3, vl3, vm3, ve3, vb3, vt3, vk3, vw3, i1, k1, l1, n1, u1, g1, -10 - nI q, 0, msv, nI q, sn1, rl1, rn1, ru1, mst, msk, ?_, ?_, rfl, sim_mk h.1 h.2.1 h.2.2⟩
    · unfold mX7_runCommands
      rw [hf]
      simp only [Option.bind_some]
      rw [if_neg (q_neg (by omega))]
    · unfold mX8_runCommands
      rw [show mX8_runCommands_L12 (nI T) mtx FU 1 0 msg mrl mrn mru = _ from d4]
      rfl
