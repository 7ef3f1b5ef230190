/-! The start. -/
theorem SS_start : SS 1 3 0 0 0 0 (upd (fun _ => 0) 0 0) (upd (fun _ => 0) 0 (-1)) (upd (upd (fun _ => 0) 0 3) 2 1) := by
  refine ⟨1, fun _ => 0, fun x => x = 0, 0, fun _ => 0, fun _ => -1, ⟨⟨⟨fun i j h1 h2 => by omega, fun _ _ => rfl, fun x hx => ⟨0, by omega, hx.symm⟩⟩, rfl, fun x hx => by rw [hx]; exact VN0, by omega⟩, ⟨⟨fun i j h1 h2 => by omega, fun i hi => absurd hi (Nat.not_lt_zero _), fun x hx => absurd rfl hx⟩, fun x hx => absurd rfl hx, by omega⟩, fun x hx => absurd rfl hx, rfl, fun x hx h0 => absurd hx h0, fun x y l h1 h2 h3 => ?_⟩, rfl, fun i hi => ?_, ⟨rfl, fun i hi => by rw [upd_of (by omega), upd_of (by omega)]; rfl, rfl, fun r hr => absurd hr (Nat.not_lt_zero _), fun r hr => absurd hr (Nat.not_lt_zero _)⟩, rfl, rfl, rfl, rfl, rfl⟩
  · rw [h1, ln_0] at h3
    omega
  · have : i = 0 := by omega
    subst this
    exact ⟨rfl, rfl⟩
theorem init4 : mX4_init = some (1, 3, 0, 0, 0, 0, upd (fun _ => 0) 0 0, upd (fun _ => 0) 0 (-1)) := rfl
theorem init5 : ∃ pa ca ra ni wi ho, mX5_init = some (1, 3, 0, 0, 0, 0, upd (fun _ => 0) 0 0, upd (fun _ => 0) 0 (-1), pa, ca, ra, ni, wi, ho, fun _ => 0) ∧ TS 1 3 0 0 0 0 (upd (fun _ => 0) 0 0) (upd (fun _ => 0) 0 (-1)) pa ca ra ni wi ho (upd (upd (fun _ => 0) 0 3) 2 1) := by
  obtain ⟨pa, ca, ra, ni, wi, ho, e1, e2⟩ := SS_start.survey (fun _ => 0) (fun _ => 0) (fun _ => 0) (fun _ => 0) (fun _ => 0) (fun _ => 0)
  refine ⟨pa, ca, ra, ni, wi, ho, ?_, e2⟩
  unfold mX5_init
  rw [init4]
  simp only [Option.bind_some]
  rw [e1]
  rfl
set_option maxHeartbeats 4000000 in
theorem sim_start : ∃ (hv' L' mv' ev' bu' td' : Int32) (ks' ws' pa' ca' ra' ni' wi' ho' lv' : Nat → Int32) (yhv' yL' ymv' yev' ybu' ytd' : Int32) (yks' yws' ypa' yca' yra' yni' ywi' yho' ylv' : Nat → Int32) (nx' sz' vh0' vl0' vm0' ve0' vb0' vt0' : Int32) (vk0' vw0' : Nat → Int32) (vh1' vl1' vm1' ve1' vb1' vt1' : Int32) (vk1' vw1' : Nat → Int32) (vh2' vl2' vm2' ve2' vb2' vt2' : Int32) (vk2' vw2' : Nat → Int32) (vh3' vl3' vm3' ve3' vb3' vt3' : Int32) (vk3' vw3' : Nat → Int32) (tl' : Int32) (sg' : Nat → Int32) (qi' qk' ql' qn' qu' qd' mth' msv' mtl' mpl' msg' mrl' mrn' mru' : Int32) (mst' mkp' msk' mtx' : Nat → Int32), mX7_init = some (hv', L', mv', ev', bu', td', ks', ws', pa', ca', ra', ni', wi', ho', lv', yhv', yL', ymv', yev', ybu', ytd', yks', yws', ypa', yca', yra', yni', ywi', yho', ylv', nx', sz', vh0', vl0', vm0', ve0', vb0', vt0', vk0', vw0', vh1', vl1', vm1', ve1', vb1', vt1', vk1', vw1', vh2', vl2', vm2', ve2', vb2', vt2', vk2', vw2', vh3', vl3', vm3', ve3', vb3', vt3', vk3', vw3', tl', sg', qi', qk', ql', qn', qu', qd') ∧ mX8_init = some (mth', msv', mtl', mpl', msg', mrl', mrn', mru', mst', mkp', msk', mtx') ∧ Sim hv' L' mv' ev' bu' td' ks' ws' pa' ca' ra' ni' wi' ho' lv' yhv' yL' ymv' yev' ybu' ytd' yks' yws' ypa' yca' yra' yni' ywi' yho' ylv' nx' sz' vh0' vl0' vm0' ve0' vb0' vt0' vk0' vw0' vh1' vl1' vm1' ve1' vb1' vt1' vk1' vw1' vh2' vl2' vm2' ve2' vb2' vt2' vk2' vw2' vh3' vl3' vm3' ve3' vb3' vt3' vk3' vw3' tl' sg' qi' qk' ql' qn' qu' qd' mth' msv' mtl' mpl' msg' mrl' mrn' mru' mst' mkp' msk' mtx' := by
  obtain ⟨pa, ca, ra, ni, wi, ho, e1, e2⟩ := init5
  refine ⟨1, 3, 0, 0, 0, 0, upd (fun _ => 0) 0 0, upd (fun _ => 0) 0 (-1), pa, ca, ra, ni, wi, ho, fun _ => 0, 1, 3, 0, 0, 0, 0, upd (fun _ => 0) 0 0, upd (fun _ => 0) 0 (-1), pa, ca, ra, ni, wi, ho, fun _ => 0, 0, 0, 1, 3, 0, 0, 0, 0, upd (fun _ => 0) 0 0, upd (fun _ => 0) 0 (-1), 1, 3, 0, 0, 0, 0, upd (fun _ => 0) 0 0, upd (fun _ => 0) 0 (-1), 1, 3, 0, 0, 0, 0, upd (fun _ => 0) 0 0, upd (fun _ => 0) 0 (-1), 1, 3, 0, 0, 0, 0, upd (fun _ => 0) 0 0, upd (fun _ => 0) 0 (-1), 0, fun _ => 0, 0, 0, 0, 0, 0, 0, 0, 0, 0, 0, 0, 0, 0, 0, upd (upd (fun _ => 0) 0 3) 2 1, fun _ => 0, fun _ => 0, fun _ => 0, ?_, rfl, sim_mk e2 ⟨0, 0, by omega, by omega, rfl, rfl, rfl, fun p hp => absurd hp (Nat.not_lt_zero _)⟩ ⟨0, fun _ => 0, by omega, rfl, rfl, fun i hi => absurd hi (Nat.not_lt_zero _)⟩⟩
  unfold mX7_init mX6_init mX1_init mX0_init
  rw [e1, init4]
  rfl
