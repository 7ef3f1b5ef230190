def mX4_write (f_t_keys_cells : Nat → Int32) (f_t_weights_cells : Nat → Int32) (p1 : Int32) (p2 : Int32) (p3 : Int32) : Option ((Nat → Int32) × (Nat → Int32)) :=
  ((mX3_put 193 f_t_keys_cells p1 p2).bind fun f_t_keys_cells_6 =>
  ((mX3_put 193 f_t_weights_cells p1 p3).bind fun f_t_weights_cells_15 =>
  some (f_t_keys_cells_6, f_t_weights_cells_15)))
abbrev rmX4_write : Room := { frames := 1, cells := 0, slots := 0, locals := 22 }
abbrev wX4_write (cA : ClassId) (a_t a_t_keys a_t_weights a_t_keys_cells a_t_weights_cells : Nat) (v_t_houses v_t_limit v_t_movedIn v_t_evicted v_t_built v_t_tornDown : Int32) (f_t_keys_cells f_t_weights_cells : Nat → Int32) : va_W := [(a_t, .inr (3, [.ref a_t_keys, .ref a_t_weights, .int v_t_houses, .int v_t_limit, .int v_t_movedIn, .int v_t_evicted, .int v_t_built, .int v_t_tornDown])), (a_t_keys, .inr (2, [.ref a_t_keys_cells])), (a_t_keys_cells, .inl (cA, 193, .inl f_t_keys_cells)), (a_t_weights, .inr (2, [.ref a_t_weights_cells])), (a_t_weights_cells, .inl (cA, 193, .inl f_t_weights_cells))]
theorem iX4_write_X4 : ∀ w ∈ wsX40, w ∈ wsX4_write := (fun _ h => List.mem_cons_of_mem _ (List.mem_append_left _ (List.mem_append_right _ h)))
theorem hdX4_write : yX4_write.cls = RX4 ∧ yX4_write.cls ≠ "java/lang/invoke/MethodHandle" ∧ yX4_write.cls ≠ "java/lang/invoke/VarHandle" ∧ (parseMethodDescriptor yX4_write.desc).map (fun d => d.parameters.length) = some 3 := by decide +kernel
set_option maxHeartbeats 4000000 in
set_option maxRecDepth 100000 in
theorem kX4_write (l : Launch) (dC : Nat → ClassId) (dI : Nat → Nat → Nat) (cA : ClassId) (a_t a_t_keys a_t_weights a_t_keys_cells a_t_weights_cells : Nat) (v_t_houses v_t_limit v_t_movedIn v_t_evicted v_t_built v_t_tornDown : Int32) (f_t_keys_cells f_t_weights_cells : Nat → Int32) (p1 p2 p3 : Int32) (sz : Nat) (o_f_t_keys_cells o_f_t_weights_cells : Nat → Int32) (hm : (mX4_write f_t_keys_cells f_t_weights_cells p1 p2 p3) = some (o_f_t_keys_cells, o_f_t_weights_cells)) : Met l yX4_write wsX4_write rmX4_write (mpc (dC, dI) [(cA, .int)] (wX4_write cA a_t a_t_keys a_t_weights a_t_keys_cells a_t_weights_cells v_t_houses v_t_limit v_t_movedIn v_t_evicted v_t_built v_t_tornDown f_t_keys_cells f_t_weights_cells) [.ref a_t, .int p1, .int p2, .int p3] sz) (mqv (dC, dI) [(cA, .int)] (va_A (wX4_write cA a_t a_t_keys a_t_weights a_t_keys_cells a_t_weights_cells v_t_houses v_t_limit v_t_movedIn v_t_evicted v_t_built v_t_tornDown f_t_keys_cells f_t_weights_cells) sz) (wX4_write cA a_t a_t_keys a_t_weights a_t_keys_cells a_t_weights_cells v_t_houses v_t_limit v_t_movedIn v_t_evicted v_t_built v_t_tornDown o_f_t_keys_cells o_f_t_weights_cells)) 0 0 (va_A (wX4_write cA a_t a_t_keys a_t_weights a_t_keys_cells a_t_weights_cells v_t_houses v_t_limit v_t_movedIn v_t_evicted v_t_built v_t_tornDown f_t_keys_cells f_t_weights_cells) sz) := by
  unfold mX4_write at hm
  refine mu_ofW (Qc := fun A => mqv (dC, dI) [(cA, .int)] A (wX4_write cA a_t a_t_keys a_t_weights a_t_keys_cells a_t_weights_cells v_t_houses v_t_limit v_t_movedIn v_t_evicted v_t_built v_t_tornDown o_f_t_keys_cells o_f_t_weights_cells)) (cc := cX4_write) (maxL := 4) (ret := none) (own := RX4) (by decide) rfl rfl (Nat.le_of_ble_eq_true rfl) ?_
  intro p e s m args below meth c hx hb hr hts hown hlocks hml hin A hA hP hD hS hK ls hl
  have hl : lv_has ls 4 [(0, .ref a_t), (1, .int p1), (2, .int p2), (3, .int p3)] := hl
  have hP : va_P (dC, dI) vwCl [(a_t, .inr (3, [.ref a_t_keys, .ref a_t_weights, .int v_t_houses, .int v_t_limit, .int v_t_movedIn, .int v_t_evicted, .int v_t_built, .int v_t_tornDown])), (a_t_keys, .inr (2, [.ref a_t_keys_cells])), (a_t_keys_cells, .inl (cA, 193, .inl f_t_keys_cells)), (a_t_weights, .inr (2, [.ref a_t_weights_cells])), (a_t_weights_cells, .inl (cA, 193, .inl f_t_weights_cells))] s.heap := hP
  have hD : va_D A [(a_t, .inr (3, [.ref a_t_keys, .ref a_t_weights, .int v_t_houses, .int v_t_limit, .int v_t_movedIn, .int v_t_evicted, .int v_t_built, .int v_t_tornDown])), (a_t_keys, .inr (2, [.ref a_t_keys_cells])), (a_t_keys_cells, .inl (cA, 193, .inl f_t_keys_cells)), (a_t_weights, .inr (2, [.ref a_t_weights_cells])), (a_t_weights_cells, .inl (cA, 193, .inl f_t_weights_cells))] := hD
  refine lv_aload_n hx hb dX4_write_0 rfl (lv_at hl 0 rfl) ?_
  refine va_get (D := (dC, dI)) (ci := 3) (C := RX4) (T := TX4) (N := 8) hx hb hts iX4_write_X4 hown hK hP 0 rfl rfl 0 (by decide) (hts _ (List.mem_of_getElem? (i := 1) rfl)) (fun _ h9 => h9) rfl dX4_write_1 ?_
  refine lv_iload_n hx hb dX4_write_4 rfl (lv_at hl 1 rfl) ?_
  refine lv_iload_n hx hb dX4_write_5 rfl (lv_at hl 2 rfl) ?_
  obtain ⟨f_t_keys_cells_6, e6, hm⟩ := bs hm
  try dsimp only at hm
  refine mu_callVv (wr := [(a_t, .inr (3, [.ref a_t_keys, .ref a_t_weights, .int v_t_houses, .int v_t_limit, .int v_t_movedIn, .int v_t_evicted, .int v_t_built, .int v_t_tornDown])), (a_t_weights, .inr (2, [.ref a_t_weights_cells])), (a_t_weights_cells, .inl (cA, 193, .inl f_t_weights_cells))]) ⟨hx, hb, hml, hown, hts⟩ (kX3_put l dC dI cA a_t_keys a_t_keys_cells 193 (by decide) f_t_keys_cells p1 p2 _ f_t_keys_cells_6 e6) (cwV 2 hts gX4_write_X3_put rfl rfl rfl hdX3_put ⟨Nat.le_of_ble_eq_true rfl, Nat.le_of_ble_eq_true rfl⟩) hP hD hS hA hK [1, 2] [0, 3, 4] rfl rfl rfl rfl (by decide) rfl rfl rfl hl.1 rfl (Nat.le_of_ble_eq_true rfl) dX4_write_6 ⟨Nat.zero_le _, Nat.zero_le _⟩ (fun H locs hP hD hS => ?_)
  have hP : va_P (dC, dI) vwCl [(a_t, .inr (3, [.ref a_t_keys, .ref a_t_weights, .int v_t_houses, .int v_t_limit, .int v_t_movedIn, .int v_t_evicted, .int v_t_built, .int v_t_tornDown])), (a_t_weights, .inr (2, [.ref a_t_weights_cells])), (a_t_weights_cells, .inl (cA, 193, .inl f_t_weights_cells)), (a_t_keys, .inr (2, [.ref a_t_keys_cells])), (a_t_keys_cells, .inl (cA, 193, .inl f_t_keys_cells_6))] H := hP
  have hD : va_D A [(a_t, .inr (3, [.ref a_t_keys, .ref a_t_weights, .int v_t_houses, .int v_t_limit, .int v_t_movedIn, .int v_t_evicted, .int v_t_built, .int v_t_tornDown])), (a_t_weights, .inr (2, [.ref a_t_weights_cells])), (a_t_weights_cells, .inl (cA, 193, .inl f_t_weights_cells)), (a_t_keys, .inr (2, [.ref a_t_keys_cells])), (a_t_keys_cells, .inl (cA, 193, .inl f_t_keys_cells_6))] := hD
  refine lv_aload_n hx hb dX4_write_9 rfl (lv_at hl 0 rfl) ?_
  refine va_get (D := (dC, dI)) (ci := 3) (C := RX4) (T := TX4) (N := 8) hx hb hts iX4_write_X4 hown hK hP 0 rfl rfl 1 (by decide) (hts _ (List.mem_of_getElem? (i := 2) rfl)) (fun _ h9 => h9) rfl dX4_write_10 ?_
  refine lv_iload_n hx hb dX4_write_13 rfl (lv_at hl 1 rfl) ?_
  refine lv_iload_n hx hb dX4_write_14 rfl (lv_at hl 3 rfl) ?_
  obtain ⟨f_t_weights_cells_15, e15, hm⟩ := bs hm
  try dsimp only at hm
  refine mu_callVv (wr := [(a_t, .inr (3, [.ref a_t_keys, .ref a_t_weights, .int v_t_houses, .int v_t_limit, .int v_t_movedIn, .int v_t_evicted, .int v_t_built, .int v_t_tornDown])), (a_t_keys, .inr (2, [.ref a_t_keys_cells])), (a_t_keys_cells, .inl (cA, 193, .inl f_t_keys_cells_6))]) ⟨hx, hb, hml, hown, hts⟩ (kX3_put l dC dI cA a_t_weights a_t_weights_cells 193 (by decide) f_t_weights_cells p1 p3 _ f_t_weights_cells_15 e15) (cwV 2 hts gX4_write_X3_put rfl rfl rfl hdX3_put ⟨Nat.le_of_ble_eq_true rfl, Nat.le_of_ble_eq_true rfl⟩) hP hD hS hA hK [1, 2] [0, 3, 4] rfl rfl rfl rfl (by decide) rfl rfl rfl hl.1 rfl (Nat.le_of_ble_eq_true rfl) dX4_write_15 ⟨Nat.zero_le _, Nat.zero_le _⟩ (fun H locs hP hD hS => ?_)
  have hP : va_P (dC, dI) vwCl [(a_t, .inr (3, [.ref a_t_keys, .ref a_t_weights, .int v_t_houses, .int v_t_limit, .int v_t_movedIn, .int v_t_evicted, .int v_t_built, .int v_t_tornDown])), (a_t_keys, .inr (2, [.ref a_t_keys_cells])), (a_t_keys_cells, .inl (cA, 193, .inl f_t_keys_cells_6)), (a_t_weights, .inr (2, [.ref a_t_weights_cells])), (a_t_weights_cells, .inl (cA, 193, .inl f_t_weights_cells_15))] H := hP
  have hD : va_D A [(a_t, .inr (3, [.ref a_t_keys, .ref a_t_weights, .int v_t_houses, .int v_t_limit, .int v_t_movedIn, .int v_t_evicted, .int v_t_built, .int v_t_tornDown])), (a_t_keys, .inr (2, [.ref a_t_keys_cells])), (a_t_keys_cells, .inl (cA, 193, .inl f_t_keys_cells_6)), (a_t_weights, .inr (2, [.ref a_t_weights_cells])), (a_t_weights_cells, .inl (cA, 193, .inl f_t_weights_cells_15))] := hD
  cases hm
  exact mu_vret hx hb hr hP hD hS hK [0, 1, 2, 3, 4] rfl (by decide) dX4_write_18 hlocks
def mX4_copyFrom (f_t_keys_cells : Nat → Int32) (f_t_weights_cells : Nat → Int32) (v_p1_houses : Int32) (v_p1_limit : Int32) (v_p1_movedIn : Int32) (v_p1_evicted : Int32) (v_p1_built : Int32) (v_p1_tornDown : Int32) (f_p1_keys_cells : Nat → Int32) (f_p1_weights_cells : Nat → Int32) : Option (Int32 × Int32 × Int32 × Int32 × Int32 × Int32 × (Nat → Int32) × (Nat → Int32)) :=
  ((mX3_copyFrom 193 193 f_t_keys_cells f_p1_keys_cells v_p1_houses).bind fun f_t_keys_cells_12 =>
  ((mX3_copyFrom 193 193 f_t_weights_cells f_p1_weights_cells v_p1_houses).bind fun f_t_weights_cells_27 =>
  some (v_p1_houses, v_p1_limit, v_p1_movedIn, v_p1_evicted, v_p1_built, v_p1_tornDown, f_t_keys_cells_12, f_t_weights_cells_27)))
abbrev rmX4_copyFrom : Room := { frames := 2, cells := 0, slots := 0, locals := 45 }
abbrev wX4_copyFrom (cA : ClassId) (a_t a_t_keys a_t_weights a_t_keys_cells a_t_weights_cells a_p1 a_p1_keys a_p1_weights a_p1_keys_cells a_p1_weights_cells : Nat) (v_t_houses v_t_limit v_t_movedIn v_t_evicted v_t_built v_t_tornDown : Int32) (f_t_keys_cells f_t_weights_cells : Nat → Int32) (v_p1_houses v_p1_limit v_p1_movedIn v_p1_evicted v_p1_built v_p1_tornDown : Int32) (f_p1_keys_cells f_p1_weights_cells : Nat → Int32) : va_W := [(a_t, .inr (3, [.ref a_t_keys, .ref a_t_weights, .int v_t_houses, .int v_t_limit, .int v_t_movedIn, .int v_t_evicted, .int v_t_built, .int v_t_tornDown])), (a_t_keys, .inr (2, [.ref a_t_keys_cells])), (a_t_keys_cells, .inl (cA, 193, .inl f_t_keys_cells)), (a_t_weights, .inr (2, [.ref a_t_weights_cells])), (a_t_weights_cells, .inl (cA, 193, .inl f_t_weights_cells)), (a_p1, .inr (3, [.ref a_p1_keys, .ref a_p1_weights, .int v_p1_houses, .int v_p1_limit, .int v_p1_movedIn, .int v_p1_evicted, .int v_p1_built, .int v_p1_tornDown])), (a_p1_keys, .inr (2, [.ref a_p1_keys_cells])), (a_p1_keys_cells, .inl (cA, 193, .inl f_p1_keys_cells)), (a_p1_weights, .inr (2, [.ref a_p1_weights_cells])), (a_p1_weights_cells, .inl (cA, 193, .inl f_p1_weights_cells))]
theorem iX4_copyFrom_X4 : ∀ w ∈ wsX40, w ∈ wsX4_copyFrom := (fun _ h => List.mem_cons_of_mem _ (List.mem_append_left _ (List.mem_append_right _ h)))
theorem hdX4_copyFrom : yX4_copyFrom.cls = RX4 ∧ yX4_copyFrom.cls ≠ "java/lang/invoke/MethodHandle" ∧ yX4_copyFrom.cls ≠ "java/lang/invoke/VarHandle" ∧ (parseMethodDescriptor yX4_copyFrom.desc).map (fun d => d.parameters.length) = some 1 := by decide +kernel
set_option maxHeartbeats 4000000 in
set_option maxRecDepth 100000 in
theorem kX4_copyFrom (l : Launch) (dC : Nat → ClassId) (dI : Nat → Nat → Nat) (cA : ClassId) (a_t a_t_keys a_t_weights a_t_keys_cells a_t_weights_cells a_p1 a_p1_keys a_p1_weights a_p1_keys_cells a_p1_weights_cells : Nat) (v_t_houses v_t_limit v_t_movedIn v_t_evicted v_t_built v_t_tornDown : Int32) (f_t_keys_cells f_t_weights_cells : Nat → Int32) (v_p1_houses v_p1_limit v_p1_movedIn v_p1_evicted v_p1_built v_p1_tornDown : Int32) (f_p1_keys_cells f_p1_weights_cells : Nat → Int32) (sz : Nat) (o_v_t_houses o_v_t_limit o_v_t_movedIn o_v_t_evicted o_v_t_built o_v_t_tornDown : Int32) (o_f_t_keys_cells o_f_t_weights_cells : Nat → Int32) (hm : (mX4_copyFrom f_t_keys_cells f_t_weights_cells v_p1_houses v_p1_limit v_p1_movedIn v_p1_evicted v_p1_built v_p1_tornDown f_p1_keys_cells f_p1_weights_cells) = some (o_v_t_houses, o_v_t_limit, o_v_t_movedIn, o_v_t_evicted, o_v_t_built, o_v_t_tornDown, o_f_t_keys_cells, o_f_t_weights_cells)) : Met l yX4_copyFrom wsX4_copyFrom rmX4_copyFrom (mpc (dC, dI) [(cA, .int)] (wX4_copyFrom cA a_t a_t_keys a_t_weights a_t_keys_cells a_t_weights_cells a_p1 a_p1_keys a_p1_weights a_p1_keys_cells a_p1_weights_cells v_t_houses v_t_limit v_t_movedIn v_t_evicted v_t_built v_t_tornDown f_t_keys_cells f_t_weights_cells v_p1_houses v_p1_limit v_p1_movedIn v_p1_evicted v_p1_built v_p1_tornDown f_p1_keys_cells f_p1_weights_cells) [.ref a_t, .ref a_p1] sz) (mqv (dC, dI) [(cA, .int)] (va_A (wX4_copyFrom cA a_t a_t_keys a_t_weights a_t_keys_cells a_t_weights_cells a_p1 a_p1_keys a_p1_weights a_p1_keys_cells a_p1_weights_cells v_t_houses v_t_limit v_t_movedIn v_t_evicted v_t_built v_t_tornDown f_t_keys_cells f_t_weights_cells v_p1_houses v_p1_limit v_p1_movedIn v_p1_evicted v_p1_built v_p1_tornDown f_p1_keys_cells f_p1_weights_cells) sz) (wX4_copyFrom cA a_t a_t_keys a_t_weights a_t_keys_cells a_t_weights_cells a_p1 a_p1_keys a_p1_weights a_p1_keys_cells a_p1_weights_cells o_v_t_houses o_v_t_limit o_v_t_movedIn o_v_t_evicted o_v_t_built o_v_t_tornDown o_f_t_keys_cells o_f_t_weights_cells v_p1_houses v_p1_limit v_p1_movedIn v_p1_evicted v_p1_built v_p1_tornDown f_p1_keys_cells f_p1_weights_cells)) 0 0 (va_A (wX4_copyFrom cA a_t a_t_keys a_t_weights a_t_keys_cells a_t_weights_cells a_p1 a_p1_keys a_p1_weights a_p1_keys_cells a_p1_weights_cells v_t_houses v_t_limit v_t_movedIn v_t_evicted v_t_built v_t_tornDown f_t_keys_cells f_t_weights_cells v_p1_houses v_p1_limit v_p1_movedIn v_p1_evicted v_p1_built v_p1_tornDown f_p1_keys_cells f_p1_weights_cells) sz) := by
  unfold mX4_copyFrom at hm
  refine mu_ofW (Qc := fun A => mqv (dC, dI) [(cA, .int)] A (wX4_copyFrom cA a_t a_t_keys a_t_weights a_t_keys_cells a_t_weights_cells a_p1 a_p1_keys a_p1_weights a_p1_keys_cells a_p1_weights_cells o_v_t_houses o_v_t_limit o_v_t_movedIn o_v_t_evicted o_v_t_built o_v_t_tornDown o_f_t_keys_cells o_f_t_weights_cells v_p1_houses v_p1_limit v_p1_movedIn v_p1_evicted v_p1_built v_p1_tornDown f_p1_keys_cells f_p1_weights_cells)) (cc := cX4_copyFrom) (maxL := 2) (ret := none) (own := RX4) (by decide) rfl rfl (Nat.le_of_ble_eq_true rfl) ?_
  intro p e s m args below meth c hx hb hr hts hown hlocks hml hin A hA hP hD hS hK ls hl
  have hl : lv_has ls 2 [(0, .ref a_t), (1, .ref a_p1)] := hl
  have hP : va_P (dC, dI) vwCl [(a_t, .inr (3, [.ref a_t_keys, .ref a_t_weights, .int v_t_houses, .int v_t_limit, .int v_t_movedIn, .int v_t_evicted, .int v_t_built, .int v_t_tornDown])), (a_t_keys, .inr (2, [.ref a_t_keys_cells])), (a_t_keys_cells, .inl (cA, 193, .inl f_t_keys_cells)), (a_t_weights, .inr (2, [.ref a_t_weights_cells])), (a_t_weights_cells, .inl (cA, 193, .inl f_t_weights_cells)), (a_p1, .inr (3, [.ref a_p1_keys, .ref a_p1_weights, .int v_p1_houses, .int v_p1_limit, .int v_p1_movedIn, .int v_p1_evicted, .int v_p1_built, .int v_p1_tornDown])), (a_p1_keys, .inr (2, [.ref a_p1_keys_cells])), (a_p1_keys_cells, .inl (cA, 193, .inl f_p1_keys_cells)), (a_p1_weights, .inr (2, [.ref a_p1_weights_cells])), (a_p1_weights_cells, .inl (cA, 193, .inl f_p1_weights_cells))] s.heap := hP
  have hD : va_D A [(a_t, .inr (3, [.ref a_t_keys, .ref a_t_weights, .int v_t_houses, .int v_t_limit, .int v_t_movedIn, .int v_t_evicted, .int v_t_built, .int v_t_tornDown])), (a_t_keys, .inr (2, [.ref a_t_keys_cells])), (a_t_keys_cells, .inl (cA, 193, .inl f_t_keys_cells)), (a_t_weights, .inr (2, [.ref a_t_weights_cells])), (a_t_weights_cells, .inl (cA, 193, .inl f_t_weights_cells)), (a_p1, .inr (3, [.ref a_p1_keys, .ref a_p1_weights, .int v_p1_houses, .int v_p1_limit, .int v_p1_movedIn, .int v_p1_evicted, .int v_p1_built, .int v_p1_tornDown])), (a_p1_keys, .inr (2, [.ref a_p1_keys_cells])), (a_p1_keys_cells, .inl (cA, 193, .inl f_p1_keys_cells)), (a_p1_weights, .inr (2, [.ref a_p1_weights_cells])), (a_p1_weights_cells, .inl (cA, 193, .inl f_p1_weights_cells))] := hD
  refine lv_aload_n hx hb dX4_copyFrom_0 rfl (lv_at hl 0 rfl) ?_
  refine va_get (D := (dC, dI)) (ci := 3) (C := RX4) (T := TX4) (N := 8) hx hb hts iX4_copyFrom_X4 hown hK hP 0 rfl rfl 0 (by decide) (hts _ (List.mem_of_getElem? (i := 1) rfl)) (fun _ h9 => h9) rfl dX4_copyFrom_1 ?_
  refine lv_aload_n hx hb dX4_copyFrom_4 rfl (lv_at hl 1 rfl) ?_
  refine va_get (D := (dC, dI)) (ci := 3) (C := RX4) (T := TX4) (N := 8) hx hb hts iX4_copyFrom_X4 hown hK hP 5 rfl rfl 0 (by decide) (hts _ (List.mem_of_getElem? (i := 1) rfl)) (fun _ h9 => h9) rfl dX4_copyFrom_5 ?_
  refine lv_aload_n hx hb dX4_copyFrom_8 rfl (lv_at hl 1 rfl) ?_
  refine va_get (D := (dC, dI)) (ci := 3) (C := RX4) (T := TX4) (N := 8) hx hb hts iX4_copyFrom_X4 hown hK hP 5 rfl rfl 2 (by decide) (hts _ (List.mem_of_getElem? (i := 2) rfl)) (fun _ h9 => h9) rfl dX4_copyFrom_9 ?_
  obtain ⟨f_t_keys_cells_12, e12, hm⟩ := bs hm
  try dsimp only at hm
  refine mu_callVv (wr := [(a_t, .inr (3, [.ref a_t_keys, .ref a_t_weights, .int v_t_houses, .int v_t_limit, .int v_t_movedIn, .int v_t_evicted, .int v_t_built, .int v_t_tornDown])), (a_t_weights, .inr (2, [.ref a_t_weights_cells])), (a_t_weights_cells, .inl (cA, 193, .inl f_t_weights_cells)), (a_p1, .inr (3, [.ref a_p1_keys, .ref a_p1_weights, .int v_p1_houses, .int v_p1_limit, .int v_p1_movedIn, .int v_p1_evicted, .int v_p1_built, .int v_p1_tornDown])), (a_p1_weights, .inr (2, [.ref a_p1_weights_cells])), (a_p1_weights_cells, .inl (cA, 193, .inl f_p1_weights_cells))]) ⟨hx, hb, hml, hown, hts⟩ (kX3_copyFrom l dC dI cA a_t_keys a_t_keys_cells a_p1_keys a_p1_keys_cells 193 193 (by decide) (by decide) f_t_keys_cells f_p1_keys_cells v_p1_houses _ f_t_keys_cells_12 e12) (cwV 2 hts gX4_copyFrom_X3_copyFrom rfl rfl rfl hdX3_copyFrom ⟨Nat.le_of_ble_eq_true rfl, Nat.le_of_ble_eq_true rfl⟩) hP hD hS hA hK [1, 2, 6, 7] [0, 3, 4, 5, 8, 9] rfl rfl rfl rfl (by decide) rfl rfl rfl hl.1 rfl (Nat.le_of_ble_eq_true rfl) dX4_copyFrom_12 ⟨Nat.zero_le _, Nat.zero_le _⟩ (fun H locs hP hD hS => ?_)
  have hP : va_P (dC, dI) vwCl [(a_t, .inr (3, [.ref a_t_keys, .ref a_t_weights, .int v_t_houses, .int v_t_limit, .int v_t_movedIn, .int v_t_evicted, .int v_t_built, .int v_t_tornDown])), (a_t_weights, .inr (2, [.ref a_t_weights_cells])), (a_t_weights_cells, .inl (cA, 193, .inl f_t_weights_cells)), (a_p1, .inr (3, [.ref a_p1_keys, .ref a_p1_weights, .int v_p1_houses, .int v_p1_limit, .int v_p1_movedIn, .int v_p1_evicted, .int v_p1_built, .int v_p1_tornDown])), (a_p1_weights, .inr (2, [.ref a_p1_weights_cells])), (a_p1_weights_cells, .inl (cA, 193, .inl f_p1_weights_cells)), (a_t_keys, .inr (2, [.ref a_t_keys_cells])), (a_t_keys_cells, .inl (cA, 193, .inl f_t_keys_cells_12)), (a_p1_keys, .inr (2, [.ref a_p1_keys_cells])), (a_p1_keys_cells, .inl (cA, 193, .inl f_p1_keys_cells))] H := hP
  have hD : va_D A [(a_t, .inr (3, [.ref a_t_keys, .ref a_t_weights, .int v_t_houses, .int v_t_limit, .int v_t_movedIn, .int v_t_evicted, .int v_t_built, .int v_t_tornDown])), (a_t_weights, .inr (2, [.ref a_t_weights_cells])), (a_t_weights_cells, .inl (cA, 193, .inl f_t_weights_cells)), (a_p1, .inr (3, [.ref a_p1_keys, .ref a_p1_weights, .int v_p1_houses, .int v_p1_limit, .int v_p1_movedIn, .int v_p1_evicted, .int v_p1_built, .int v_p1_tornDown])), (a_p1_weights, .inr (2, [.ref a_p1_weights_cells])), (a_p1_weights_cells, .inl (cA, 193, .inl f_p1_weights_cells)), (a_t_keys, .inr (2, [.ref a_t_keys_cells])), (a_t_keys_cells, .inl (cA, 193, .inl f_t_keys_cells_12)), (a_p1_keys, .inr (2, [.ref a_p1_keys_cells])), (a_p1_keys_cells, .inl (cA, 193, .inl f_p1_keys_cells))] := hD
  refine lv_aload_n hx hb dX4_copyFrom_15 rfl (lv_at hl 0 rfl) ?_
  refine va_get (D := (dC, dI)) (ci := 3) (C := RX4) (T := TX4) (N := 8) hx hb hts iX4_copyFrom_X4 hown hK hP 0 rfl rfl 1 (by decide) (hts _ (List.mem_of_getElem? (i := 3) rfl)) (fun _ h9 => h9) rfl dX4_copyFrom_16 ?_
  refine lv_aload_n hx hb dX4_copyFrom_19 rfl (lv_at hl 1 rfl) ?_
  refine va_get (D := (dC, dI)) (ci := 3) (C := RX4) (T := TX4) (N := 8) hx hb hts iX4_copyFrom_X4 hown hK hP 3 rfl rfl 1 (by decide) (hts _ (List.mem_of_getElem? (i := 3) rfl)) (fun _ h9 => h9) rfl dX4_copyFrom_20 ?_
  refine lv_aload_n hx hb dX4_copyFrom_23 rfl (lv_at hl 1 rfl) ?_
  refine va_get (D := (dC, dI)) (ci := 3) (C := RX4) (T := TX4) (N := 8) hx hb hts iX4_copyFrom_X4 hown hK hP 3 rfl rfl 2 (by decide) (hts _ (List.mem_of_getElem? (i := 2) rfl)) (fun _ h9 => h9) rfl dX4_copyFrom_24 ?_
  obtain ⟨f_t_weights_cells_27, e27, hm⟩ := bs hm
  try dsimp only at hm
  refine mu_callVv (wr := [(a_t, .inr (3, [.ref a_t_keys, .ref a_t_weights, .int v_t_houses, .int v_t_limit, .int v_t_movedIn, .int v_t_evicted, .int v_t_built, .int v_t_tornDown])), (a_p1, .inr (3, [.ref a_p1_keys, .ref a_p1_weights, .int v_p1_houses, .int v_p1_limit, .int v_p1_movedIn, .int v_p1_evicted, .int v_p1_built, .int v_p1_tornDown])), (a_t_keys, .inr (2, [.ref a_t_keys_cells])), (a_t_keys_cells, .inl (cA, 193, .inl f_t_keys_cells_12)), (a_p1_keys, .inr (2, [.ref a_p1_keys_cells])), (a_p1_keys_cells, .inl (cA, 193, .inl f_p1_keys_cells))]) ⟨hx, hb, hml, hown, hts⟩ (kX3_copyFrom l dC dI cA a_t_weights a_t_weights_cells a_p1_weights a_p1_weights_cells 193 193 (by decide) (by decide) f_t_weights_cells f_p1_weights_cells v_p1_houses _ f_t_weights_cells_27 e27) (cwV 2 hts gX4_copyFrom_X3_copyFrom rfl rfl rfl hdX3_copyFrom ⟨Nat.le_of_ble_eq_true rfl, Nat.le_of_ble_eq_true rfl⟩) hP hD hS hA hK [1, 2, 4, 5] [0, 3, 6, 7, 8, 9] rfl rfl rfl rfl (by decide) rfl rfl rfl hl.1 rfl (Nat.le_of_ble_eq_true rfl) dX4_copyFrom_27 ⟨Nat.zero_le _, Nat.zero_le _⟩ (fun H locs hP hD hS => ?_)
  have hP : va_P (dC, dI) vwCl [(a_t, .inr (3, [.ref a_t_keys, .ref a_t_weights, .int v_t_houses, .int v_t_limit, .int v_t_movedIn, .int v_t_evicted, .int v_t_built, .int v_t_tornDown])), (a_p1, .inr (3, [.ref a_p1_keys, .ref a_p1_weights, .int v_p1_houses, .int v_p1_limit, .int v_p1_movedIn, .int v_p1_evicted, .int v_p1_built, .int v_p1_tornDown])), (a_t_keys, .inr (2, [.ref a_t_keys_cells])), (a_t_keys_cells, .inl (cA, 193, .inl f_t_keys_cells_12)), (a_p1_keys, .inr (2, [.ref a_p1_keys_cells])), (a_p1_keys_cells, .inl (cA, 193, .inl f_p1_keys_cells)), (a_t_weights, .inr (2, [.ref a_t_weights_cells])), (a_t_weights_cells, .inl (cA, 193, .inl f_t_weights_cells_27)), (a_p1_weights, .inr (2, [.ref a_p1_weights_cells])), (a_p1_weights_cells, .inl (cA, 193, .inl f_p1_weights_cells))] H := hP
  have hD : va_D A [(a_t, .inr (3, [.ref a_t_keys, .ref a_t_weights, .int v_t_houses, .int v_t_limit, .int v_t_movedIn, .int v_t_evicted, .int v_t_built, .int v_t_tornDown])), (a_p1, .inr (3, [.ref a_p1_keys, .ref a_p1_weights, .int v_p1_houses, .int v_p1_limit, .int v_p1_movedIn, .int v_p1_evicted, .int v_p1_built, .int v_p1_tornDown])), (a_t_keys, .inr (2, [.ref a_t_keys_cells])), (a_t_keys_cells, .inl (cA, 193, .inl f_t_keys_cells_12)), (a_p1_keys, .inr (2, [.ref a_p1_keys_cells])), (a_p1_keys_cells, .inl (cA, 193, .inl f_p1_keys_cells)), (a_t_weights, .inr (2, [.ref a_t_weights_cells])), (a_t_weights_cells, .inl (cA, 193, .inl f_t_weights_cells_27)), (a_p1_weights, .inr (2, [.ref a_p1_weights_cells])), (a_p1_weights_cells, .inl (cA, 193, .inl f_p1_weights_cells))] := hD
  refine lv_aload_n hx hb dX4_copyFrom_30 rfl (lv_at hl 0 rfl) ?_
  refine lv_aload_n hx hb dX4_copyFrom_31 rfl (lv_at hl 1 rfl) ?_
  refine va_get (D := (dC, dI)) (ci := 3) (C := RX4) (T := TX4) (N := 8) hx hb hts iX4_copyFrom_X4 hown hK hP 1 rfl rfl 2 (by decide) (hts _ (List.mem_of_getElem? (i := 2) rfl)) (fun _ h9 => h9) rfl dX4_copyFrom_32 ?_
  refine va_put (D := (dC, dI)) (ci := 3) (C := RX4) (T := TX4) (N := 8) (ty := .int) hx hb hts iX4_copyFrom_X4 tyX4 tyX4_ok nmX4 hown hK hP hD hS 0 rfl rfl 2 (by decide) (hts _ (List.mem_of_getElem? (i := 2) rfl)) (fun _ h9 => h9) rfl (by decide +kernel) rfl rfl (Nat.le_of_ble_eq_true rfl) dX4_copyFrom_35 (fun H locs hP hD hS => ?_)
  have hP : va_P (dC, dI) vwCl [(a_t, .inr (3, [.ref a_t_keys, .ref a_t_weights, .int v_p1_houses, .int v_t_limit, .int v_t_movedIn, .int v_t_evicted, .int v_t_built, .int v_t_tornDown])), (a_p1, .inr (3, [.ref a_p1_keys, .ref a_p1_weights, .int v_p1_houses, .int v_p1_limit, .int v_p1_movedIn, .int v_p1_evicted, .int v_p1_built, .int v_p1_tornDown])), (a_t_keys, .inr (2, [.ref a_t_keys_cells])), (a_t_keys_cells, .inl (cA, 193, .inl f_t_keys_cells_12)), (a_p1_keys, .inr (2, [.ref a_p1_keys_cells])), (a_p1_keys_cells, .inl (cA, 193, .inl f_p1_keys_cells)), (a_t_weights, .inr (2, [.ref a_t_weights_cells])), (a_t_weights_cells, .inl (cA, 193, .inl f_t_weights_cells_27)), (a_p1_weights, .inr (2, [.ref a_p1_weights_cells])), (a_p1_weights_cells, .inl (cA, 193, .inl f_p1_weights_cells))] H := hP
  have hD : va_D A [(a_t, .inr (3, [.ref a_t_keys, .ref a_t_weights, .int v_p1_houses, .int v_t_limit, .int v_t_movedIn, .int v_t_evicted, .int v_t_built, .int v_t_tornDown])), (a_p1, .inr (3, [.ref a_p1_keys, .ref a_p1_weights, .int v_p1_houses, .int v_p1_limit, .int v_p1_movedIn, .int v_p1_evicted, .int v_p1_built, .int v_p1_tornDown])), (a_t_keys, .inr (2, [.ref a_t_keys_cells])), (a_t_keys_cells, .inl (cA, 193, .inl f_t_keys_cells_12)), (a_p1_keys, .inr (2, [.ref a_p1_keys_cells])), (a_p1_keys_cells, .inl (cA, 193, .inl f_p1_keys_cells)), (a_t_weights, .inr (2, [.ref a_t_weights_cells])), (a_t_weights_cells, .inl (cA, 193, .inl f_t_weights_cells_27)), (a_p1_weights, .inr (2, [.ref a_p1_weights_cells])), (a_p1_weights_cells, .inl (cA, 193, .inl f_p1_weights_cells))] := hD
  refine lv_aload_n hx hb dX4_copyFrom_38 rfl (lv_at hl 0 rfl) ?_
  refine lv_aload_n hx hb dX4_copyFrom_39 rfl (lv_at hl 1 rfl) ?_
  refine va_get (D := (dC, dI)) (ci := 3) (C := RX4) (T := TX4) (N := 8) hx hb hts iX4_copyFrom_X4 hown hK hP 1 rfl rfl 3 (by decide) (hts _ (List.mem_of_getElem? (i := 4) rfl)) (fun _ h9 => h9) rfl dX4_copyFrom_40 ?_
  refine va_put (D := (dC, dI)) (ci := 3) (C := RX4) (T := TX4) (N := 8) (ty := .int) hx hb hts iX4_copyFrom_X4 tyX4 tyX4_ok nmX4 hown hK hP hD hS 0 rfl rfl 3 (by decide) (hts _ (List.mem_of_getElem? (i := 4) rfl)) (fun _ h9 => h9) rfl (by decide +kernel) rfl rfl (Nat.le_of_ble_eq_true rfl) dX4_copyFrom_43 (fun H locs hP hD hS => ?_)
  have hP : va_P (dC, dI) vwCl [(a_t, .inr (3, [.ref a_t_keys, .ref a_t_weights, .int v_p1_houses, .int v_p1_limit, .int v_t_movedIn, .int v_t_evicted, .int v_t_built, .int v_t_tornDown])), (a_p1, .inr (3, [.ref a_p1_keys, .ref a_p1_weights, .int v_p1_houses, .int v_p1_limit, .int v_p1_movedIn, .int v_p1_evicted, .int v_p1_built, .int v_p1_tornDown])), (a_t_keys, .inr (2, [.ref a_t_keys_cells])), (a_t_keys_cells, .inl (cA, 193, .inl f_t_keys_cells_12)), (a_p1_keys, .inr (2, [.ref a_p1_keys_cells])), (a_p1_keys_cells, .inl (cA, 193, .inl f_p1_keys_cells)), (a_t_weights, .inr (2, [.ref a_t_weights_cells])), (a_t_weights_cells, .inl (cA, 193, .inl f_t_weights_cells_27)), (a_p1_weights, .inr (2, [.ref a_p1_weights_cells])), (a_p1_weights_cells, .inl (cA, 193, .inl f_p1_weights_cells))] H := hP
  have hD : va_D A [(a_t, .inr (3, [.ref a_t_keys, .ref a_t_weights, .int v_p1_houses, .int v_p1_limit, .int v_t_movedIn, .int v_t_evicted, .int v_t_built, .int v_t_tornDown])), (a_p1, .inr (3, [.ref a_p1_keys, .ref a_p1_weights, .int v_p1_houses, .int v_p1_limit, .int v_p1_movedIn, .int v_p1_evicted, .int v_p1_built, .int v_p1_tornDown])), (a_t_keys, .inr (2, [.ref a_t_keys_cells])), (a_t_keys_cells, .inl (cA, 193, .inl f_t_keys_cells_12)), (a_p1_keys, .inr (2, [.ref a_p1_keys_cells])), (a_p1_keys_cells, .inl (cA, 193, .inl f_p1_keys_cells)), (a_t_weights, .inr (2, [.ref a_t_weights_cells])), (a_t_weights_cells, .inl (cA, 193, .inl f_t_weights_cells_27)), (a_p1_weights, .inr (2, [.ref a_p1_weights_cells])), (a_p1_weights_cells, .inl (cA, 193, .inl f_p1_weights_cells))] := hD
  refine lv_aload_n hx hb dX4_copyFrom_46 rfl (lv_at hl 0 rfl) ?_
  refine lv_aload_n hx hb dX4_copyFrom_47 rfl (lv_at hl 1 rfl) ?_
  refine va_get (D := (dC, dI)) (ci := 3) (C := RX4) (T := TX4) (N := 8) hx hb hts iX4_copyFrom_X4 hown hK hP 1 rfl rfl 4 (by decide) (hts _ (List.mem_of_getElem? (i := 5) rfl)) (fun _ h9 => h9) rfl dX4_copyFrom_48 ?_
  refine va_put (D := (dC, dI)) (ci := 3) (C := RX4) (T := TX4) (N := 8) (ty := .int) hx hb hts iX4_copyFrom_X4 tyX4 tyX4_ok nmX4 hown hK hP hD hS 0 rfl rfl 4 (by decide) (hts _ (List.mem_of_getElem? (i := 5) rfl)) (fun _ h9 => h9) rfl (by decide +kernel) rfl rfl (Nat.le_of_ble_eq_true rfl) dX4_copyFrom_51 (fun H locs hP hD hS => ?_)
  have hP : va_P (dC, dI) vwCl [(a_t, .inr (3, [.ref a_t_keys, .ref a_t_weights, .int v_p1_houses, .int v_p1_limit, .int v_p1_movedIn, .int v_t_evicted, .int v_t_built, .int v_t_tornDown])), (a_p1, .inr (3, [.ref a_p1_keys, .ref a_p1_weights, .int v_p1_houses, .int v_p1_limit, .int v_p1_movedIn, .int v_p1_evicted, .int v_p1_built, .int v_p1_tornDown])), (a_t_keys, .inr (2, [.ref a_t_keys_cells])), (a_t_keys_cells, .inl (cA, 193, .inl f_t_keys_cells_12)), (a_p1_keys, .inr (2, [.ref a_p1_keys_cells])), (a_p1_keys_cells, .inl (cA, 193, .inl f_p1_keys_cells)), (a_t_weights, .inr (2, [.ref a_t_weights_cells])), (a_t_weights_cells, .inl (cA, 193, .inl f_t_weights_cells_27)), (a_p1_weights, .inr (2, [.ref a_p1_weights_cells])), (a_p1_weights_cells, .inl (cA, 193, .inl f_p1_weights_cells))] H := hP
  have hD : va_D A [(a_t, .inr (3, [.ref a_t_keys, .ref a_t_weights, .int v_p1_houses, .int v_p1_limit, .int v_p1_movedIn, .int v_t_evicted, .int v_t_built, .int v_t_tornDown])), (a_p1, .inr (3, [.ref a_p1_keys, .ref a_p1_weights, .int v_p1_houses, .int v_p1_limit, .int v_p1_movedIn, .int v_p1_evicted, .int v_p1_built, .int v_p1_tornDown])), (a_t_keys, .inr (2, [.ref a_t_keys_cells])), (a_t_keys_cells, .inl (cA, 193, .inl f_t_keys_cells_12)), (a_p1_keys, .inr (2, [.ref a_p1_keys_cells])), (a_p1_keys_cells, .inl (cA, 193, .inl f_p1_keys_cells)), (a_t_weights, .inr (2, [.ref a_t_weights_cells])), (a_t_weights_cells, .inl (cA, 193, .inl f_t_weights_cells_27)), (a_p1_weights, .inr (2, [.ref a_p1_weights_cells])), (a_p1_weights_cells, .inl (cA, 193, .inl f_p1_weights_cells))] := hD
  refine lv_aload_n hx hb dX4_copyFrom_54 rfl (lv_at hl 0 rfl) ?_
  refine lv_aload_n hx hb dX4_copyFrom_55 rfl (lv_at hl 1 rfl) ?_
  refine va_get (D := (dC, dI)) (ci := 3) (C := RX4) (T := TX4) (N := 8) hx hb hts iX4_copyFrom_X4 hown hK hP 1 rfl rfl 5 (by decide) (hts _ (List.mem_of_getElem? (i := 6) rfl)) (fun _ h9 => h9) rfl dX4_copyFrom_56 ?_
  refine va_put (D := (dC, dI)) (ci := 3) (C := RX4) (T := TX4) (N := 8) (ty := .int) hx hb hts iX4_copyFrom_X4 tyX4 tyX4_ok nmX4 hown hK hP hD hS 0 rfl rfl 5 (by decide) (hts _ (List.mem_of_getElem? (i := 6) rfl)) (fun _ h9 => h9) rfl (by decide +kernel) rfl rfl (Nat.le_of_ble_eq_true rfl) dX4_copyFrom_59 (fun H locs hP hD hS => ?_)
  have hP : va_P (dC, dI) vwCl [(a_t, .inr (3, [.ref a_t_keys, .ref a_t_weights, .int v_p1_houses, .int v_p1_limit, .int v_p1_movedIn, .int v_p1_evicted, .int v_t_built, .int v_t_tornDown])), (a_p1, .inr (3, [.ref a_p1_keys, .ref a_p1_weights, .int v_p1_houses, .int v_p1_limit, .int v_p1_movedIn, .int v_p1_evicted, .int v_p1_built, .int v_p1_tornDown])), (a_t_keys, .inr (2, [.ref a_t_keys_cells])), (a_t_keys_cells, .inl (cA, 193, .inl f_t_keys_cells_12)), (a_p1_keys, .inr (2, [.ref a_p1_keys_cells])), (a_p1_keys_cells, .inl (cA, 193, .inl f_p1_keys_cells)), (a_t_weights, .inr (2, [.ref a_t_weights_cells])), (a_t_weights_cells, .inl (cA, 193, .inl f_t_weights_cells_27)), (a_p1_weights, .inr (2, [.ref a_p1_weights_cells])), (a_p1_weights_cells, .inl (cA, 193, .inl f_p1_weights_cells))] H := hP
  have hD : va_D A [(a_t, .inr (3, [.ref a_t_keys, .ref a_t_weights, .int v_p1_houses, .int v_p1_limit, .int v_p1_movedIn, .int v_p1_evicted, .int v_t_built, .int v_t_tornDown])), (a_p1, .inr (3, [.ref a_p1_keys, .ref a_p1_weights, .int v_p1_houses, .int v_p1_limit, .int v_p1_movedIn, .int v_p1_evicted, .int v_p1_built, .int v_p1_tornDown])), (a_t_keys, .inr (2, [.ref a_t_keys_cells])), (a_t_keys_cells, .inl (cA, 193, .inl f_t_keys_cells_12)), (a_p1_keys, .inr (2, [.ref a_p1_keys_cells])), (a_p1_keys_cells, .inl (cA, 193, .inl f_p1_keys_cells)), (a_t_weights, .inr (2, [.ref a_t_weights_cells])), (a_t_weights_cells, .inl (cA, 193, .inl f_t_weights_cells_27)), (a_p1_weights, .inr (2, [.ref a_p1_weights_cells])), (a_p1_weights_cells, .inl (cA, 193, .inl f_p1_weights_cells))] := hD
  refine lv_aload_n hx hb dX4_copyFrom_62 rfl (lv_at hl 0 rfl) ?_
  refine lv_aload_n hx hb dX4_copyFrom_63 rfl (lv_at hl 1 rfl) ?_
  refine va_get (D := (dC, dI)) (ci := 3) (C := RX4) (T := TX4) (N := 8) hx hb hts iX4_copyFrom_X4 hown hK hP 1 rfl rfl 6 (by decide) (hts _ (List.mem_of_getElem? (i := 7) rfl)) (fun _ h9 => h9) rfl dX4_copyFrom_64 ?_
  refine va_put (D := (dC, dI)) (ci := 3) (C := RX4) (T := TX4) (N := 8) (ty := .int) hx hb hts iX4_copyFrom_X4 tyX4 tyX4_ok nmX4 hown hK hP hD hS 0 rfl rfl 6 (by decide) (hts _ (List.mem_of_getElem? (i := 7) rfl)) (fun _ h9 => h9) rfl (by decide +kernel) rfl rfl (Nat.le_of_ble_eq_true rfl) dX4_copyFrom_67 (fun H locs hP hD hS => ?_)
  have hP : va_P (dC, dI) vwCl [(a_t, .inr (3, [.ref a_t_keys, .ref a_t_weights, .int v_p1_houses, .int v_p1_limit, .int v_p1_movedIn, .int v_p1_evicted, .int v_p1_built, .int v_t_tornDown])), (a_p1, .inr (3, [.ref a_p1_keys, .ref a_p1_weights, .int v_p1_houses, .int v_p1_limit, .int v_p1_movedIn, .int v_p1_evicted, .int v_p1_built, .int v_p1_tornDown])), (a_t_keys, .inr (2, [.ref a_t_keys_cells])), (a_t_keys_cells, .inl (cA, 193, .inl f_t_keys_cells_12)), (a_p1_keys, .inr (2, [.ref a_p1_keys_cells])), (a_p1_keys_cells, .inl (cA, 193, .inl f_p1_keys_cells)), (a_t_weights, .inr (2, [.ref a_t_weights_cells])), (a_t_weights_cells, .inl (cA, 193, .inl f_t_weights_cells_27)), (a_p1_weights, .inr (2, [.ref a_p1_weights_cells])), (a_p1_weights_cells, .inl (cA, 193, .inl f_p1_weights_cells))] H := hP
  have hD : va_D A [(a_t, .inr (3, [.ref a_t_keys, .ref a_t_weights, .int v_p1_houses, .int v_p1_limit, .int v_p1_movedIn, .int v_p1_evicted, .int v_p1_built, .int v_t_tornDown])), (a_p1, .inr (3, [.ref a_p1_keys, .ref a_p1_weights, .int v_p1_houses, .int v_p1_limit, .int v_p1_movedIn, .int v_p1_evicted, .int v_p1_built, .int v_p1_tornDown])), (a_t_keys, .inr (2, [.ref a_t_keys_cells])), (a_t_keys_cells, .inl (cA, 193, .inl f_t_keys_cells_12)), (a_p1_keys, .inr (2, [.ref a_p1_keys_cells])), (a_p1_keys_cells, .inl (cA, 193, .inl f_p1_keys_cells)), (a_t_weights, .inr (2, [.ref a_t_weights_cells])), (a_t_weights_cells, .inl (cA, 193, .inl f_t_weights_cells_27)), (a_p1_weights, .inr (2, [.ref a_p1_weights_cells])), (a_p1_weights_cells, .inl (cA, 193, .inl f_p1_weights_cells))] := hD
  refine lv_aload_n hx hb dX4_copyFrom_70 rfl (lv_at hl 0 rfl) ?_
  refine lv_aload_n hx hb dX4_copyFrom_71 rfl (lv_at hl 1 rfl) ?_
  refine va_get (D := (dC, dI)) (ci := 3) (C := RX4) (T := TX4) (N := 8) hx hb hts iX4_copyFrom_X4 hown hK hP 1 rfl rfl 7 (by decide) (hts _ (List.mem_of_getElem? (i := 8) rfl)) (fun _ h9 => h9) rfl dX4_copyFrom_72 ?_
  refine va_put (D := (dC, dI)) (ci := 3) (C := RX4) (T := TX4) (N := 8) (ty := .int) hx hb hts iX4_copyFrom_X4 tyX4 tyX4_ok nmX4 hown hK hP hD hS 0 rfl rfl 7 (by decide) (hts _ (List.mem_of_getElem? (i := 8) rfl)) (fun _ h9 => h9) rfl (by decide +kernel) rfl rfl (Nat.le_of_ble_eq_true rfl) dX4_copyFrom_75 (fun H locs hP hD hS => ?_)
  have hP : va_P (dC, dI) vwCl [(a_t, .inr (3, [.ref a_t_keys, .ref a_t_weights, .int v_p1_houses, .int v_p1_limit, .int v_p1_movedIn, .int v_p1_evicted, .int v_p1_built, .int v_p1_tornDown])), (a_p1, .inr (3, [.ref a_p1_keys, .ref a_p1_weights, .int v_p1_houses, .int v_p1_limit, .int v_p1_movedIn, .int v_p1_evicted, .int v_p1_built, .int v_p1_tornDown])), (a_t_keys, .inr (2, [.ref a_t_keys_cells])), (a_t_keys_cells, .inl (cA, 193, .inl f_t_keys_cells_12)), (a_p1_keys, .inr (2, [.ref a_p1_keys_cells])), (a_p1_keys_cells, .inl (cA, 193, .inl f_p1_keys_cells)), (a_t_weights, .inr (2, [.ref a_t_weights_cells])), (a_t_weights_cells, .inl (cA, 193, .inl f_t_weights_cells_27)), (a_p1_weights, .inr (2, [.ref a_p1_weights_cells])), (a_p1_weights_cells, .inl (cA, 193, .inl f_p1_weights_cells))] H := hP
  have hD : va_D A [(a_t, .inr (3, [.ref a_t_keys, .ref a_t_weights, .int v_p1_houses, .int v_p1_limit, .int v_p1_movedIn, .int v_p1_evicted, .int v_p1_built, .int v_p1_tornDown])), (a_p1, .inr (3, [.ref a_p1_keys, .ref a_p1_weights, .int v_p1_houses, .int v_p1_limit, .int v_p1_movedIn, .int v_p1_evicted, .int v_p1_built, .int v_p1_tornDown])), (a_t_keys, .inr (2, [.ref a_t_keys_cells])), (a_t_keys_cells, .inl (cA, 193, .inl f_t_keys_cells_12)), (a_p1_keys, .inr (2, [.ref a_p1_keys_cells])), (a_p1_keys_cells, .inl (cA, 193, .inl f_p1_keys_cells)), (a_t_weights, .inr (2, [.ref a_t_weights_cells])), (a_t_weights_cells, .inl (cA, 193, .inl f_t_weights_cells_27)), (a_p1_weights, .inr (2, [.ref a_p1_weights_cells])), (a_p1_weights_cells, .inl (cA, 193, .inl f_p1_weights_cells))] := hD
  cases hm
  exact mu_vret hx hb hr hP hD hS hK [0, 2, 3, 6, 7, 1, 4, 5, 8, 9] rfl (by decide) dX4_copyFrom_78 hlocks
def mX4_isHome (f_t_weights_cells : Nat → Int32) (p1 : Int32) : Int32 :=
  (if (mX3_at 193 f_t_weights_cells p1) = (-1) then (0 : Int32) else 1)
abbrev rmX4_isHome : Room := { frames := 1, cells := 0, slots := 0, locals := 21 }
abbrev wX4_isHome (cA : ClassId) (a_t a_t_keys a_t_weights a_t_weights_cells : Nat) (v_t_houses v_t_limit v_t_movedIn v_t_evicted v_t_built v_t_tornDown : Int32) (f_t_weights_cells : Nat → Int32) : va_W := [(a_t, .inr (3, [.ref a_t_keys, .ref a_t_weights, .int v_t_houses, .int v_t_limit, .int v_t_movedIn, .int v_t_evicted, .int v_t_built, .int v_t_tornDown])), (a_t_weights, .inr (2, [.ref a_t_weights_cells])), (a_t_weights_cells, .inl (cA, 193, .inl f_t_weights_cells))]
theorem iX4_isHome_X4 : ∀ w ∈ wsX40, w ∈ wsX4_isHome := (fun _ h => List.mem_cons_of_mem _ (List.mem_append_left _ (List.mem_append_right _ h)))
theorem hdX4_isHome : yX4_isHome.cls = RX4 ∧ yX4_isHome.cls ≠ "java/lang/invoke/MethodHandle" ∧ yX4_isHome.cls ≠ "java/lang/invoke/VarHandle" ∧ (parseMethodDescriptor yX4_isHome.desc).map (fun d => d.parameters.length) = some 1 := by decide +kernel
set_option maxHeartbeats 4000000 in
set_option maxRecDepth 100000 in
theorem kX4_isHome (l : Launch) (dC : Nat → ClassId) (dI : Nat → Nat → Nat) (cA : ClassId) (a_t a_t_keys a_t_weights a_t_weights_cells : Nat) (v_t_houses v_t_limit v_t_movedIn v_t_evicted v_t_built v_t_tornDown : Int32) (f_t_weights_cells : Nat → Int32) (p1 : Int32) : Met l yX4_isHome wsX4_isHome rmX4_isHome (rpc (dC, dI) [(cA, .int)] (wX4_isHome cA a_t a_t_keys a_t_weights a_t_weights_cells v_t_houses v_t_limit v_t_movedIn v_t_evicted v_t_built v_t_tornDown f_t_weights_cells) [.ref a_t, .int p1]) (vp_Si (fun x => x = (mX4_isHome f_t_weights_cells p1) ∧ nbr (mX4_isHome f_t_weights_cells p1))) 0 0 (fun _ => False) := by
  obtain ⟨r, hm⟩ : ∃ r, mX4_isHome f_t_weights_cells p1 = r := ⟨_, rfl⟩
  rw [hm]
  unfold mX4_isHome at hm
  refine ro_ofW (cc := cX4_isHome) (maxL := 2) (ret := (some .boolean)) (own := RX4) (by decide) rfl rfl (Nat.le_of_ble_eq_true rfl) ?_
  intro p e s m args below meth c hx hb hr hts hown hlocks hml hP hK ls hl
  have hl : lv_has ls 2 [(0, .ref a_t), (1, .int p1)] := hl
  have hP : va_P (dC, dI) vwCl [(a_t, .inr (3, [.ref a_t_keys, .ref a_t_weights, .int v_t_houses, .int v_t_limit, .int v_t_movedIn, .int v_t_evicted, .int v_t_built, .int v_t_tornDown])), (a_t_weights, .inr (2, [.ref a_t_weights_cells])), (a_t_weights_cells, .inl (cA, 193, .inl f_t_weights_cells))] s.heap := hP
  refine lv_aload_n hx hb dX4_isHome_0 rfl (lv_at hl 0 rfl) ?_
  refine va_get (D := (dC, dI)) (ci := 3) (C := RX4) (T := TX4) (N := 8) hx hb hts iX4_isHome_X4 hown hK hP 0 rfl rfl 1 (by decide) (hts _ (List.mem_of_getElem? (i := 1) rfl)) (fun _ h9 => h9) rfl dX4_isHome_1 ?_
  refine lv_iload_n hx hb dX4_isHome_4 rfl (lv_at hl 1 rfl) ?_
  refine ro_callVe ⟨hx, hb, hml, hown, hts⟩ (kX3_at l dC dI cA a_t_weights a_t_weights_cells 193 (by decide) f_t_weights_cells p1) (cwV 1 hts gX4_isHome_X3_at rfl rfl rfl hdX3_at ⟨Nat.le_of_ble_eq_true rfl, Nat.le_of_ble_eq_true rfl⟩) (hP.sub [1, 2] rfl) hK rfl rfl rfl hl.1 rfl (Nat.le_of_ble_eq_true rfl) dX4_isHome_5 ⟨Nat.zero_le _, Nat.zero_le _⟩ ?_
  refine lv_iconst (v := (-1)) hx hb dX4_isHome_8 (by decide) ?_
  refine lv_icmp_eq (tgt := 16) hx hb dX4_isHome_9 (by decide) (fun c9 => ?_) (fun c9 => ?_)
  · try simp only [if_pos c9] at hm
    refine lv_iconst (v := 0) hx hb dX4_isHome_16 (by decide) ?_
    subst hm
    exact ro_iret hx hb hr rfl ⟨rfl, rfl⟩ dX4_isHome_17 hlocks
  · try simp only [if_neg c9] at hm
    refine lv_iconst (v := 1) hx hb dX4_isHome_12 (by decide) ?_
    refine lv_goto (tgt := 17) hx hb dX4_isHome_13 (by decide) ?_
    subst hm
    exact ro_iret hx hb hr rfl ⟨rfl, rfl⟩ dX4_isHome_17 hlocks
def mX4_placeOf_L2 (v_t_houses : Int32) (x1_2 : Int32) (f_t_keys_cells : Nat → Int32) : Nat → (Int32) → Option (Int32)
  | 0, _ => none
  | n + 1, x2_2 =>
    (if v_t_houses ≤ x2_2 then
      some x2_2
    else
      (if x1_2 ≤ (mX3_at 193 f_t_keys_cells x2_2) then
        some x2_2
      else
        mX4_placeOf_L2 v_t_houses x1_2 f_t_keys_cells n (x2_2 + 1)))
def mX4_placeOf (v_t_houses : Int32) (f_t_keys_cells : Nat → Int32) (p1 : Int32) : Option (Int32) :=
  ((mX4_placeOf_L2 v_t_houses p1 f_t_keys_cells FU 0).bind fun y2_2 =>
  some y2_2)
abbrev rmX4_placeOf : Room := { frames := 1, cells := 0, slots := 0, locals := 21 }
abbrev wX4_placeOf (cA : ClassId) (a_t a_t_keys a_t_weights a_t_keys_cells : Nat) (v_t_houses v_t_limit v_t_movedIn v_t_evicted v_t_built v_t_tornDown : Int32) (f_t_keys_cells : Nat → Int32) : va_W := [(a_t, .inr (3, [.ref a_t_keys, .ref a_t_weights, .int v_t_houses, .int v_t_limit, .int v_t_movedIn, .int v_t_evicted, .int v_t_built, .int v_t_tornDown])), (a_t_keys, .inr (2, [.ref a_t_keys_cells])), (a_t_keys_cells, .inl (cA, 193, .inl f_t_keys_cells))]
theorem iX4_placeOf_X4 : ∀ w ∈ wsX40, w ∈ wsX4_placeOf := (fun _ h => List.mem_cons_of_mem _ (List.mem_append_left _ (List.mem_append_right _ h)))
theorem hdX4_placeOf : yX4_placeOf.cls = RX4 ∧ yX4_placeOf.cls ≠ "java/lang/invoke/MethodHandle" ∧ yX4_placeOf.cls ≠ "java/lang/invoke/VarHandle" ∧ (parseMethodDescriptor yX4_placeOf.desc).map (fun d => d.parameters.length) = some 1 := by decide +kernel
set_option maxHeartbeats 4000000 in
set_option maxRecDepth 100000 in
theorem wX4_placeOf_L2 {p : Program} {l : Launch} {e : Env} {s : State} {m : MethodId} {args : Array Value} {below : List Frame} {meth : Method} {c : Code} {Q : State → Prop} {H : Heap} (dC : Nat → ClassId) (dI : Nat → Nat → Nat) (cA : ClassId) (a_t a_t_keys a_t_weights a_t_keys_cells : Nat) (v_t_houses v_t_limit v_t_movedIn v_t_evicted v_t_built v_t_tornDown : Int32) (f_t_keys_cells : Nat → Int32) (p1 x1_2 y2_2 : Int32) (hx : p.tables.exec = Jvm.exec) (hb : c.code = cX4_placeOf) (hml : c.maxLocals = 3) (hown : s.vm.findClass RX4 = some m.cls) (hts : ∀ w ∈ wsX4_placeOf, w.before args s = true) (hK : va_K (dC, dI) vwCl [(cA, .int)] s) (hP : va_P (dC, dI) vwCl [(a_t, .inr (3, [.ref a_t_keys, .ref a_t_weights, .int v_t_houses, .int v_t_limit, .int v_t_movedIn, .int v_t_evicted, .int v_t_built, .int v_t_tornDown])), (a_t_keys, .inr (2, [.ref a_t_keys_cells])), (a_t_keys_cells, .inl (cA, 193, .inl f_t_keys_cells))] H)
    (kk0 : ∀ ls : Array Slot, lv_has ls 3 [(0, .ref a_t), (1, .int x1_2), (2, .int y2_2)] → W p l e (headSpec wsX4_placeOf rmX4_placeOf).room s m args below meth c H [] 0 0 Q (F0 m 28 ls [])) :
    ∀ (n : Nat) (x2_2 : Int32), mX4_placeOf_L2 v_t_houses x1_2 f_t_keys_cells n x2_2 = some y2_2 → ∀ ls : Array Slot, lv_has ls 3 [(0, .ref a_t), (1, .int x1_2), (2, .int x2_2)] → W p l e (headSpec wsX4_placeOf rmX4_placeOf).room s m args below meth c H [] 0 0 Q (F0 m 2 ls []) := by
  intro n
  induction n with
  | zero =>
    intro x2_2 hm
    cases hm
  | succ n ih =>
    intro x2_2 hm ls hl
    rw [mX4_placeOf_L2] at hm
    refine lv_iload_n hx hb dX4_placeOf_2 rfl (lv_at hl 2 rfl) ?_
    refine lv_aload_n hx hb dX4_placeOf_3 rfl (lv_at hl 0 rfl) ?_
    refine va_get (D := (dC, dI)) (ci := 3) (C := RX4) (T := TX4) (N := 8) hx hb hts iX4_placeOf_X4 hown hK hP 0 rfl rfl 2 (by decide) (hts _ (List.mem_of_getElem? (i := 1) rfl)) (fun _ h9 => h9) rfl dX4_placeOf_4 ?_
    refine lv_icmp_ge (tgt := 28) hx hb dX4_placeOf_7 (by decide) (fun c7 => ?_) (fun c7 => ?_)
    · rw [if_pos c7] at hm
      cases hm
      exact kk0 _ (lv_sub hl [0, 1, 2] rfl)
    · rw [if_neg c7] at hm
      refine lv_aload_n hx hb dX4_placeOf_10 rfl (lv_at hl 0 rfl) ?_
      refine va_get (D := (dC, dI)) (ci := 3) (C := RX4) (T := TX4) (N := 8) hx hb hts iX4_placeOf_X4 hown hK hP 0 rfl rfl 0 (by decide) (hts _ (List.mem_of_getElem? (i := 2) rfl)) (fun _ h9 => h9) rfl dX4_placeOf_11 ?_
      refine lv_iload_n hx hb dX4_placeOf_14 rfl (lv_at hl 2 rfl) ?_
      refine ro_callVe ⟨hx, hb, hml, hown, hts⟩ (kX3_at l dC dI cA a_t_keys a_t_keys_cells 193 (by decide) f_t_keys_cells x2_2) (cwV 1 hts gX4_placeOf_X3_at rfl rfl rfl hdX3_at ⟨Nat.le_of_ble_eq_true rfl, Nat.le_of_ble_eq_true rfl⟩) (hP.sub [1, 2] rfl) hK rfl rfl rfl hl.1 rfl (Nat.le_of_ble_eq_true rfl) dX4_placeOf_15 ⟨Nat.zero_le _, Nat.zero_le _⟩ ?_
      refine lv_iload_n hx hb dX4_placeOf_18 rfl (lv_at hl 1 rfl) ?_
      refine lv_icmp_ge (tgt := 28) hx hb dX4_placeOf_19 (by decide) (fun c19 => ?_) (fun c19 => ?_)
      · rw [if_pos c19] at hm
        cases hm
        exact kk0 _ (lv_sub hl [0, 1, 2] rfl)
      · rw [if_neg c19] at hm
        refine lv_iinc (v := (x2_2 + 1)) (lv' := [(2, .int (x2_2 + 1)), (0, .ref a_t), (1, .int x1_2)]) hx hb dX4_placeOf_22 hl (k := 2) rfl rfl (by decide) rfl (fun ls hl => ?_)
        refine lv_goto (tgt := 2) hx hb dX4_placeOf_25 (by decide) ?_
        exact ih _ hm _ (lv_sub hl [1, 2, 0] rfl)
set_option maxHeartbeats 4000000 in
set_option maxRecDepth 100000 in
theorem kX4_placeOf (l : Launch) (dC : Nat → ClassId) (dI : Nat → Nat → Nat) (cA : ClassId) (a_t a_t_keys a_t_weights a_t_keys_cells : Nat) (v_t_houses v_t_limit v_t_movedIn v_t_evicted v_t_built v_t_tornDown : Int32) (f_t_keys_cells : Nat → Int32) (p1 r : Int32) (hm : (mX4_placeOf v_t_houses f_t_keys_cells p1) = some r) : Met l yX4_placeOf wsX4_placeOf rmX4_placeOf (rpc (dC, dI) [(cA, .int)] (wX4_placeOf cA a_t a_t_keys a_t_weights a_t_keys_cells v_t_houses v_t_limit v_t_movedIn v_t_evicted v_t_built v_t_tornDown f_t_keys_cells) [.ref a_t, .int p1]) (vp_Si (fun x => x = r)) 0 0 (fun _ => False) := by
  unfold mX4_placeOf at hm
  refine ro_ofW (cc := cX4_placeOf) (maxL := 3) (ret := (some .int)) (own := RX4) (by decide) rfl rfl (Nat.le_of_ble_eq_true rfl) ?_
  intro p e s m args below meth c hx hb hr hts hown hlocks hml hP hK ls hl
  have hl : lv_has ls 3 [(0, .ref a_t), (1, .int p1)] := hl
  have hP : va_P (dC, dI) vwCl [(a_t, .inr (3, [.ref a_t_keys, .ref a_t_weights, .int v_t_houses, .int v_t_limit, .int v_t_movedIn, .int v_t_evicted, .int v_t_built, .int v_t_tornDown])), (a_t_keys, .inr (2, [.ref a_t_keys_cells])), (a_t_keys_cells, .inl (cA, 193, .inl f_t_keys_cells))] s.heap := hP
  refine lv_iconst (v := 0) hx hb dX4_placeOf_0 (by decide) ?_
  refine lv_istore_n (lv' := [(2, .int 0), (0, .ref a_t), (1, .int p1)]) hx hb dX4_placeOf_1 rfl hl (by decide) rfl (fun ls hl => ?_)
  obtain ⟨y2_2, e2, hm⟩ := bs hm
  try dsimp only at hm
  refine wX4_placeOf_L2 dC dI cA a_t a_t_keys a_t_weights a_t_keys_cells v_t_houses v_t_limit v_t_movedIn v_t_evicted v_t_built v_t_tornDown f_t_keys_cells p1 p1 y2_2 hx hb hml hown hts hK (hP.sub [0, 1, 2] rfl) ?_ FU _ e2 _ (lv_sub hl [1, 2, 0] rfl)
  · intro ls hl
    refine lv_iload_n hx hb dX4_placeOf_28 rfl (lv_at hl 2 rfl) ?_
    cases hm
    exact ro_iret hx hb hr rfl rfl dX4_placeOf_29 hlocks
def mX4_indexOf (v_t_houses : Int32) (f_t_keys_cells : Nat → Int32) (p1 : Int32) : Option (Int32) :=
  ((mX4_placeOf v_t_houses f_t_keys_cells p1).bind fun r2 =>
  some (if v_t_houses ≤ r2 then (-1) else (if (mX3_at 193 f_t_keys_cells r2) = p1 then r2 else (-1))))
abbrev rmX4_indexOf : Room := { frames := 2, cells := 0, slots := 0, locals := 43 }
abbrev wX4_indexOf (cA : ClassId) (a_t a_t_keys a_t_weights a_t_keys_cells : Nat) (v_t_houses v_t_limit v_t_movedIn v_t_evicted v_t_built v_t_tornDown : Int32) (f_t_keys_cells : Nat → Int32) : va_W := [(a_t, .inr (3, [.ref a_t_keys, .ref a_t_weights, .int v_t_houses, .int v_t_limit, .int v_t_movedIn, .int v_t_evicted, .int v_t_built, .int v_t_tornDown])), (a_t_keys, .inr (2, [.ref a_t_keys_cells])), (a_t_keys_cells, .inl (cA, 193, .inl f_t_keys_cells))]
theorem iX4_indexOf_X4 : ∀ w ∈ wsX40, w ∈ wsX4_indexOf := (fun _ h => List.mem_cons_of_mem _ (List.mem_append_left _ (List.mem_append_right _ h)))
theorem hdX4_indexOf : yX4_indexOf.cls = RX4 ∧ yX4_indexOf.cls ≠ "java/lang/invoke/MethodHandle" ∧ yX4_indexOf.cls ≠ "java/lang/invoke/VarHandle" ∧ (parseMethodDescriptor yX4_indexOf.desc).map (fun d => d.parameters.length) = some 1 := by decide +kernel
set_option maxHeartbeats 4000000 in
set_option maxRecDepth 100000 in
theorem kX4_indexOf (l : Launch) (dC : Nat → ClassId) (dI : Nat → Nat → Nat) (cA : ClassId) (a_t a_t_keys a_t_weights a_t_keys_cells : Nat) (v_t_houses v_t_limit v_t_movedIn v_t_evicted v_t_built v_t_tornDown : Int32) (f_t_keys_cells : Nat → Int32) (p1 r : Int32) (hm : (mX4_indexOf v_t_houses f_t_keys_cells p1) = some r) : Met l yX4_indexOf wsX4_indexOf rmX4_indexOf (rpc (dC, dI) [(cA, .int)] (wX4_indexOf cA a_t a_t_keys a_t_weights a_t_keys_cells v_t_houses v_t_limit v_t_movedIn v_t_evicted v_t_built v_t_tornDown f_t_keys_cells) [.ref a_t, .int p1]) (vp_Si (fun x => x = r)) 0 0 (fun _ => False) := by
  unfold mX4_indexOf at hm
  refine ro_ofW (cc := cX4_indexOf) (maxL := 3) (ret := (some .int)) (own := RX4) (by decide) rfl rfl (Nat.le_of_ble_eq_true rfl) ?_
  intro p e s m args below meth c hx hb hr hts hown hlocks hml hP hK ls hl
  have hl : lv_has ls 3 [(0, .ref a_t), (1, .int p1)] := hl
  have hP : va_P (dC, dI) vwCl [(a_t, .inr (3, [.ref a_t_keys, .ref a_t_weights, .int v_t_houses, .int v_t_limit, .int v_t_movedIn, .int v_t_evicted, .int v_t_built, .int v_t_tornDown])), (a_t_keys, .inr (2, [.ref a_t_keys_cells])), (a_t_keys_cells, .inl (cA, 193, .inl f_t_keys_cells))] s.heap := hP
  refine lv_aload_n hx hb dX4_indexOf_0 rfl (lv_at hl 0 rfl) ?_
  refine lv_iload_n hx hb dX4_indexOf_1 rfl (lv_at hl 1 rfl) ?_
  obtain ⟨r2, e2, hm⟩ := bs hm
  try dsimp only at hm
  refine ro_callVe ⟨hx, hb, hml, hown, hts⟩ (kX4_placeOf l dC dI cA a_t a_t_keys a_t_weights a_t_keys_cells v_t_houses v_t_limit v_t_movedIn v_t_evicted v_t_built v_t_tornDown f_t_keys_cells p1 r2 e2) (cwV 1 hts gX4_indexOf_X4_placeOf rfl rfl rfl hdX4_placeOf ⟨Nat.le_of_ble_eq_true rfl, Nat.le_of_ble_eq_true rfl⟩) (hP.sub [0, 1, 2] rfl) hK rfl rfl rfl hl.1 rfl (Nat.le_of_ble_eq_true rfl) dX4_indexOf_2 ⟨Nat.zero_le _, Nat.zero_le _⟩ ?_
  refine lv_istore_n (lv' := [(2, .int r2), (0, .ref a_t), (1, .int p1)]) hx hb dX4_indexOf_5 rfl hl (by decide) rfl (fun ls hl => ?_)
  refine lv_iload_n hx hb dX4_indexOf_6 rfl (lv_at hl 0 rfl) ?_
  refine lv_aload_n hx hb dX4_indexOf_7 rfl (lv_at hl 1 rfl) ?_
  refine va_get (D := (dC, dI)) (ci := 3) (C := RX4) (T := TX4) (N := 8) hx hb hts iX4_indexOf_X4 hown hK hP 0 rfl rfl 2 (by decide) (hts _ (List.mem_of_getElem? (i := 1) rfl)) (fun _ h9 => h9) rfl dX4_indexOf_8 ?_
  refine lv_icmp_ge (tgt := 30) hx hb dX4_indexOf_11 (by decide) (fun c11 => ?_) (fun c11 => ?_)
  · try simp only [if_pos c11] at hm
    refine lv_iconst (v := (-1)) hx hb dX4_indexOf_30 (by decide) ?_
    cases hm
    exact ro_iret hx hb hr rfl rfl dX4_indexOf_31 hlocks
  · try simp only [if_neg c11] at hm
    refine lv_aload_n hx hb dX4_indexOf_14 rfl (lv_at hl 1 rfl) ?_
    refine va_get (D := (dC, dI)) (ci := 3) (C := RX4) (T := TX4) (N := 8) hx hb hts iX4_indexOf_X4 hown hK hP 0 rfl rfl 0 (by decide) (hts _ (List.mem_of_getElem? (i := 2) rfl)) (fun _ h9 => h9) rfl dX4_indexOf_15 ?_
    refine lv_iload_n hx hb dX4_indexOf_18 rfl (lv_at hl 0 rfl) ?_
    refine ro_callVe ⟨hx, hb, hml, hown, hts⟩ (kX3_at l dC dI cA a_t_keys a_t_keys_cells 193 (by decide) f_t_keys_cells r2) (cwV 1 hts gX4_indexOf_X3_at rfl rfl rfl hdX3_at ⟨Nat.le_of_ble_eq_true rfl, Nat.le_of_ble_eq_true rfl⟩) (hP.sub [1, 2] rfl) hK rfl rfl rfl hl.1 rfl (Nat.le_of_ble_eq_true rfl) dX4_indexOf_19 ⟨Nat.zero_le _, Nat.zero_le _⟩ ?_
    refine lv_iload_n hx hb dX4_indexOf_22 rfl (lv_at hl 2 rfl) ?_
    refine lv_icmp_ne (tgt := 30) hx hb dX4_indexOf_23 (by decide) (fun c23 => ?_) (fun c23 => ?_)
    · try simp only [if_neg c23] at hm
      refine lv_iconst (v := (-1)) hx hb dX4_indexOf_30 (by decide) ?_
      cases hm
      exact ro_iret hx hb hr rfl rfl dX4_indexOf_31 hlocks
    · try simp only [if_pos c23] at hm
      refine lv_iload_n hx hb dX4_indexOf_26 rfl (lv_at hl 0 rfl) ?_
      refine lv_goto (tgt := 31) hx hb dX4_indexOf_27 (by decide) ?_
      cases hm
      exact ro_iret hx hb hr rfl rfl dX4_indexOf_31 hlocks
def mX4_firstWith (v_t_houses : Int32) (f_t_keys_cells : Nat → Int32) (p1 : Int32) : Option (Int32) :=
  ((mX4_placeOf v_t_houses f_t_keys_cells p1).bind fun r2 =>
  some (if v_t_houses ≤ r2 then (-1) else (if (mX2_isBeginning p1 (mX3_at 193 f_t_keys_cells r2)) = 0 then (-1) else r2)))
abbrev rmX4_firstWith : Room := { frames := 2, cells := 0, slots := 0, locals := 43 }
abbrev wX4_firstWith (cA : ClassId) (a_t a_t_keys a_t_weights a_t_keys_cells : Nat) (v_t_houses v_t_limit v_t_movedIn v_t_evicted v_t_built v_t_tornDown : Int32) (f_t_keys_cells : Nat → Int32) : va_W := [(a_t, .inr (3, [.ref a_t_keys, .ref a_t_weights, .int v_t_houses, .int v_t_limit, .int v_t_movedIn, .int v_t_evicted, .int v_t_built, .int v_t_tornDown])), (a_t_keys, .inr (2, [.ref a_t_keys_cells])), (a_t_keys_cells, .inl (cA, 193, .inl f_t_keys_cells))]
theorem iX4_firstWith_X4 : ∀ w ∈ wsX40, w ∈ wsX4_firstWith := (fun _ h => List.mem_cons_of_mem _ (List.mem_append_left _ (List.mem_append_right _ h)))
theorem hdX4_firstWith : yX4_firstWith.cls = RX4 ∧ yX4_firstWith.cls ≠ "java/lang/invoke/MethodHandle" ∧ yX4_firstWith.cls ≠ "java/lang/invoke/VarHandle" ∧ (parseMethodDescriptor yX4_firstWith.desc).map (fun d => d.parameters.length) = some 1 := by decide +kernel
set_option maxHeartbeats 4000000 in
set_option maxRecDepth 100000 in
theorem kX4_firstWith (l : Launch) (dC : Nat → ClassId) (dI : Nat → Nat → Nat) (cA : ClassId) (a_t a_t_keys a_t_weights a_t_keys_cells : Nat) (v_t_houses v_t_limit v_t_movedIn v_t_evicted v_t_built v_t_tornDown : Int32) (f_t_keys_cells : Nat → Int32) (p1 r : Int32) (hm : (mX4_firstWith v_t_houses f_t_keys_cells p1) = some r) : Met l yX4_firstWith wsX4_firstWith rmX4_firstWith (rpc (dC, dI) [(cA, .int)] (wX4_firstWith cA a_t a_t_keys a_t_weights a_t_keys_cells v_t_houses v_t_limit v_t_movedIn v_t_evicted v_t_built v_t_tornDown f_t_keys_cells) [.ref a_t, .int p1]) (vp_Si (fun x => x = r)) 0 0 (fun _ => False) := by
  unfold mX4_firstWith at hm
  refine ro_ofW (cc := cX4_firstWith) (maxL := 3) (ret := (some .int)) (own := RX4) (by decide) rfl rfl (Nat.le_of_ble_eq_true rfl) ?_
  intro p e s m args below meth c hx hb hr hts hown hlocks hml hP hK ls hl
  have hl : lv_has ls 3 [(0, .ref a_t), (1, .int p1)] := hl
  have hP : va_P (dC, dI) vwCl [(a_t, .inr (3, [.ref a_t_keys, .ref a_t_weights, .int v_t_houses, .int v_t_limit, .int v_t_movedIn, .int v_t_evicted, .int v_t_built, .int v_t_tornDown])), (a_t_keys, .inr (2, [.ref a_t_keys_cells])), (a_t_keys_cells, .inl (cA, 193, .inl f_t_keys_cells))] s.heap := hP
  refine lv_aload_n hx hb dX4_firstWith_0 rfl (lv_at hl 0 rfl) ?_
  refine lv_iload_n hx hb dX4_firstWith_1 rfl (lv_at hl 1 rfl) ?_
  obtain ⟨r2, e2, hm⟩ := bs hm
  try dsimp only at hm
  refine ro_callVe ⟨hx, hb, hml, hown, hts⟩ (kX4_placeOf l dC dI cA a_t a_t_keys a_t_weights a_t_keys_cells v_t_houses v_t_limit v_t_movedIn v_t_evicted v_t_built v_t_tornDown f_t_keys_cells p1 r2 e2) (cwV 1 hts gX4_firstWith_X4_placeOf rfl rfl rfl hdX4_placeOf ⟨Nat.le_of_ble_eq_true rfl, Nat.le_of_ble_eq_true rfl⟩) (hP.sub [0, 1, 2] rfl) hK rfl rfl rfl hl.1 rfl (Nat.le_of_ble_eq_true rfl) dX4_firstWith_2 ⟨Nat.zero_le _, Nat.zero_le _⟩ ?_
  refine lv_istore_n (lv' := [(2, .int r2), (0, .ref a_t), (1, .int p1)]) hx hb dX4_firstWith_5 rfl hl (by decide) rfl (fun ls hl => ?_)
  refine lv_iload_n hx hb dX4_firstWith_6 rfl (lv_at hl 0 rfl) ?_
  refine lv_aload_n hx hb dX4_firstWith_7 rfl (lv_at hl 1 rfl) ?_
  refine va_get (D := (dC, dI)) (ci := 3) (C := RX4) (T := TX4) (N := 8) hx hb hts iX4_firstWith_X4 hown hK hP 0 rfl rfl 2 (by decide) (hts _ (List.mem_of_getElem? (i := 1) rfl)) (fun _ h9 => h9) rfl dX4_firstWith_8 ?_
  refine lv_icmp_ge (tgt := 33) hx hb dX4_firstWith_11 (by decide) (fun c11 => ?_) (fun c11 => ?_)
  · try simp only [if_pos c11] at hm
    refine lv_iconst (v := (-1)) hx hb dX4_firstWith_33 (by decide) ?_
    cases hm
    exact ro_iret hx hb hr rfl rfl dX4_firstWith_34 hlocks
  · try simp only [if_neg c11] at hm
    refine lv_iload_n hx hb dX4_firstWith_14 rfl (lv_at hl 2 rfl) ?_
    refine lv_aload_n hx hb dX4_firstWith_15 rfl (lv_at hl 1 rfl) ?_
    refine va_get (D := (dC, dI)) (ci := 3) (C := RX4) (T := TX4) (N := 8) hx hb hts iX4_firstWith_X4 hown hK hP 0 rfl rfl 0 (by decide) (hts _ (List.mem_of_getElem? (i := 2) rfl)) (fun _ h9 => h9) rfl dX4_firstWith_16 ?_
    refine lv_iload_n hx hb dX4_firstWith_19 rfl (lv_at hl 0 rfl) ?_
    refine ro_callVe ⟨hx, hb, hml, hown, hts⟩ (kX3_at l dC dI cA a_t_keys a_t_keys_cells 193 (by decide) f_t_keys_cells r2) (cwV 1 hts gX4_firstWith_X3_at rfl rfl rfl hdX3_at ⟨Nat.le_of_ble_eq_true rfl, Nat.le_of_ble_eq_true rfl⟩) (hP.sub [1, 2] rfl) hK rfl rfl rfl hl.1 rfl (Nat.le_of_ble_eq_true rfl) dX4_firstWith_20 ⟨Nat.zero_le _, Nat.zero_le _⟩ ?_
    refine sp_callSz ⟨hx, hb, hml, hown, hts⟩ (kX2_isBeginning l p1 (mX3_at 193 f_t_keys_cells r2)) (va_cwS 2 hts gX4_firstWith_X2_isBeginning rfl rfl rfl hdX2_isBeginning.2 ⟨Nat.le_of_ble_eq_true rfl, Nat.le_of_ble_eq_true rfl⟩) rfl hl.1 rfl (Nat.le_of_ble_eq_true rfl) dX4_firstWith_23 ⟨Nat.zero_le _, Nat.zero_le _⟩ (fun hb23 => ?_)
    refine lv_if_eq (tgt := 33) hx hb dX4_firstWith_26 (by decide) (fun c26 => ?_) (fun c26 => ?_)
    · try simp only [if_pos c26] at hm
      refine lv_iconst (v := (-1)) hx hb dX4_firstWith_33 (by decide) ?_
      cases hm
      exact ro_iret hx hb hr rfl rfl dX4_firstWith_34 hlocks
    · try simp only [if_neg c26] at hm
      refine lv_iload_n hx hb dX4_firstWith_29 rfl (lv_at hl 0 rfl) ?_
      refine lv_goto (tgt := 34) hx hb dX4_firstWith_30 (by decide) ?_
      cases hm
      exact ro_iret hx hb hr rfl rfl dX4_firstWith_34 hlocks
def mX4_insertHouse (v_t_houses : Int32) (f_t_keys_cells : Nat → Int32) (f_t_weights_cells : Nat → Int32) (p1 : Int32) : Option (Int32 × (Nat → Int32) × (Nat → Int32)) :=
  ((mX4_placeOf v_t_houses f_t_keys_cells p1).bind fun r2 =>
  ((mX3_openAt 193 f_t_keys_cells r2 v_t_houses).bind fun f_t_keys_cells_15 =>
  ((mX3_openAt 193 f_t_weights_cells r2 v_t_houses).bind fun f_t_weights_cells_27 =>
  ((mX4_write f_t_keys_cells_15 f_t_weights_cells_27 r2 p1 (-1)).bind fun (f_t_keys_cells_34, f_t_weights_cells_34) =>
  some ((v_t_houses + 1), f_t_keys_cells_34, f_t_weights_cells_34)))))
abbrev rmX4_insertHouse : Room := { frames := 2, cells := 0, slots := 0, locals := 45 }
abbrev wX4_insertHouse (cA : ClassId) (a_t a_t_keys a_t_weights a_t_keys_cells a_t_weights_cells : Nat) (v_t_houses v_t_limit v_t_movedIn v_t_evicted v_t_built v_t_tornDown : Int32) (f_t_keys_cells f_t_weights_cells : Nat → Int32) : va_W := [(a_t, .inr (3, [.ref a_t_keys, .ref a_t_weights, .int v_t_houses, .int v_t_limit, .int v_t_movedIn, .int v_t_evicted, .int v_t_built, .int v_t_tornDown])), (a_t_keys, .inr (2, [.ref a_t_keys_cells])), (a_t_keys_cells, .inl (cA, 193, .inl f_t_keys_cells)), (a_t_weights, .inr (2, [.ref a_t_weights_cells])), (a_t_weights_cells, .inl (cA, 193, .inl f_t_weights_cells))]
theorem iX4_insertHouse_X4 : ∀ w ∈ wsX40, w ∈ wsX4_insertHouse := (fun _ h => List.mem_cons_of_mem _ (List.mem_append_left _ (List.mem_append_right _ h)))
theorem hdX4_insertHouse : yX4_insertHouse.cls = RX4 ∧ yX4_insertHouse.cls ≠ "java/lang/invoke/MethodHandle" ∧ yX4_insertHouse.cls ≠ "java/lang/invoke/VarHandle" ∧ (parseMethodDescriptor yX4_insertHouse.desc).map (fun d => d.parameters.length) = some 1 := by decide +kernel
set_option maxHeartbeats 4000000 in
set_option maxRecDepth 100000 in
theorem kX4_insertHouse (l : Launch) (dC : Nat → ClassId) (dI : Nat → Nat → Nat) (cA : ClassId) (a_t a_t_keys a_t_weights a_t_keys_cells a_t_weights_cells : Nat) (v_t_houses v_t_limit v_t_movedIn v_t_evicted v_t_built v_t_tornDown : Int32) (f_t_keys_cells f_t_weights_cells : Nat → Int32) (p1 : Int32) (sz : Nat) (o_v_t_houses : Int32) (o_f_t_keys_cells o_f_t_weights_cells : Nat → Int32) (hm : (mX4_insertHouse v_t_houses f_t_keys_cells f_t_weights_cells p1) = some (o_v_t_houses, o_f_t_keys_cells, o_f_t_weights_cells)) : Met l yX4_insertHouse wsX4_insertHouse rmX4_insertHouse (mpc (dC, dI) [(cA, .int)] (wX4_insertHouse cA a_t a_t_keys a_t_weights a_t_keys_cells a_t_weights_cells v_t_houses v_t_limit v_t_movedIn v_t_evicted v_t_built v_t_tornDown f_t_keys_cells f_t_weights_cells) [.ref a_t, .int p1] sz) (mqv (dC, dI) [(cA, .int)] (va_A (wX4_insertHouse cA a_t a_t_keys a_t_weights a_t_keys_cells a_t_weights_cells v_t_houses v_t_limit v_t_movedIn v_t_evicted v_t_built v_t_tornDown f_t_keys_cells f_t_weights_cells) sz) (wX4_insertHouse cA a_t a_t_keys a_t_weights a_t_keys_cells a_t_weights_cells o_v_t_houses v_t_limit v_t_movedIn v_t_evicted v_t_built v_t_tornDown o_f_t_keys_cells o_f_t_weights_cells)) 0 0 (va_A (wX4_insertHouse cA a_t a_t_keys a_t_weights a_t_keys_cells a_t_weights_cells v_t_houses v_t_limit v_t_movedIn v_t_evicted v_t_built v_t_tornDown f_t_keys_cells f_t_weights_cells) sz) := by
  unfold mX4_insertHouse at hm
  refine mu_ofW (Qc := fun A => mqv (dC, dI) [(cA, .int)] A (wX4_insertHouse cA a_t a_t_keys a_t_weights a_t_keys_cells a_t_weights_cells o_v_t_houses v_t_limit v_t_movedIn v_t_evicted v_t_built v_t_tornDown o_f_t_keys_cells o_f_t_weights_cells)) (cc := cX4_insertHouse) (maxL := 3) (ret := none) (own := RX4) (by decide) rfl rfl (Nat.le_of_ble_eq_true rfl) ?_
  intro p e s m args below meth c hx hb hr hts hown hlocks hml hin A hA hP hD hS hK ls hl
  have hl : lv_has ls 3 [(0, .ref a_t), (1, .int p1)] := hl
  have hP : va_P (dC, dI) vwCl [(a_t, .inr (3, [.ref a_t_keys, .ref a_t_weights, .int v_t_houses, .int v_t_limit, .int v_t_movedIn, .int v_t_evicted, .int v_t_built, .int v_t_tornDown])), (a_t_keys, .inr (2, [.ref a_t_keys_cells])), (a_t_keys_cells, .inl (cA, 193, .inl f_t_keys_cells)), (a_t_weights, .inr (2, [.ref a_t_weights_cells])), (a_t_weights_cells, .inl (cA, 193, .inl f_t_weights_cells))] s.heap := hP
  have hD : va_D A [(a_t, .inr (3, [.ref a_t_keys, .ref a_t_weights, .int v_t_houses, .int v_t_limit, .int v_t_movedIn, .int v_t_evicted, .int v_t_built, .int v_t_tornDown])), (a_t_keys, .inr (2, [.ref a_t_keys_cells])), (a_t_keys_cells, .inl (cA, 193, .inl f_t_keys_cells)), (a_t_weights, .inr (2, [.ref a_t_weights_cells])), (a_t_weights_cells, .inl (cA, 193, .inl f_t_weights_cells))] := hD
  refine lv_aload_n hx hb dX4_insertHouse_0 rfl (lv_at hl 0 rfl) ?_
  refine lv_iload_n hx hb dX4_insertHouse_1 rfl (lv_at hl 1 rfl) ?_
  obtain ⟨r2, e2, hm⟩ := bs hm
  try dsimp only at hm
  refine ro_callVe ⟨hx, hb, hml, hown, hts⟩ (kX4_placeOf l dC dI cA a_t a_t_keys a_t_weights a_t_keys_cells v_t_houses v_t_limit v_t_movedIn v_t_evicted v_t_built v_t_tornDown f_t_keys_cells p1 r2 e2) (cwV 1 hts gX4_insertHouse_X4_placeOf rfl rfl rfl hdX4_placeOf ⟨Nat.le_of_ble_eq_true rfl, Nat.le_of_ble_eq_true rfl⟩) (hP.sub [0, 1, 2] rfl) hK rfl rfl rfl hl.1 rfl (Nat.le_of_ble_eq_true rfl) dX4_insertHouse_2 ⟨Nat.zero_le _, Nat.zero_le _⟩ ?_
  refine lv_istore_n (lv' := [(2, .int r2), (0, .ref a_t), (1, .int p1)]) hx hb dX4_insertHouse_5 rfl hl (by decide) rfl (fun ls hl => ?_)
  refine lv_aload_n hx hb dX4_insertHouse_6 rfl (lv_at hl 1 rfl) ?_
  refine va_get (D := (dC, dI)) (ci := 3) (C := RX4) (T := TX4) (N := 8) hx hb hts iX4_insertHouse_X4 hown hK hP 0 rfl rfl 0 (by decide) (hts _ (List.mem_of_getElem? (i := 1) rfl)) (fun _ h9 => h9) rfl dX4_insertHouse_7 ?_
  refine lv_iload_n hx hb dX4_insertHouse_10 rfl (lv_at hl 0 rfl) ?_
  refine lv_aload_n hx hb dX4_insertHouse_11 rfl (lv_at hl 1 rfl) ?_
  refine va_get (D := (dC, dI)) (ci := 3) (C := RX4) (T := TX4) (N := 8) hx hb hts iX4_insertHouse_X4 hown hK hP 0 rfl rfl 2 (by decide) (hts _ (List.mem_of_getElem? (i := 2) rfl)) (fun _ h9 => h9) rfl dX4_insertHouse_12 ?_
  obtain ⟨f_t_keys_cells_15, e15, hm⟩ := bs hm
  try dsimp only at hm
  refine mu_callVv (wr := [(a_t, .inr (3, [.ref a_t_keys, .ref a_t_weights, .int v_t_houses, .int v_t_limit, .int v_t_movedIn, .int v_t_evicted, .int v_t_built, .int v_t_tornDown])), (a_t_weights, .inr (2, [.ref a_t_weights_cells])), (a_t_weights_cells, .inl (cA, 193, .inl f_t_weights_cells))]) ⟨hx, hb, hml, hown, hts⟩ (kX3_openAt l dC dI cA a_t_keys a_t_keys_cells 193 (by decide) f_t_keys_cells r2 v_t_houses _ f_t_keys_cells_15 e15) (cwV 2 hts gX4_insertHouse_X3_openAt rfl rfl rfl hdX3_openAt ⟨Nat.le_of_ble_eq_true rfl, Nat.le_of_ble_eq_true rfl⟩) hP hD hS hA hK [1, 2] [0, 3, 4] rfl rfl rfl rfl (by decide) rfl rfl rfl hl.1 rfl (Nat.le_of_ble_eq_true rfl) dX4_insertHouse_15 ⟨Nat.zero_le _, Nat.zero_le _⟩ (fun H locs hP hD hS => ?_)
  have hP : va_P (dC, dI) vwCl [(a_t, .inr (3, [.ref a_t_keys, .ref a_t_weights, .int v_t_houses, .int v_t_limit, .int v_t_movedIn, .int v_t_evicted, .int v_t_built, .int v_t_tornDown])), (a_t_weights, .inr (2, [.ref a_t_weights_cells])), (a_t_weights_cells, .inl (cA, 193, .inl f_t_weights_cells)), (a_t_keys, .inr (2, [.ref a_t_keys_cells])), (a_t_keys_cells, .inl (cA, 193, .inl f_t_keys_cells_15))] H := hP
  have hD : va_D A [(a_t, .inr (3, [.ref a_t_keys, .ref a_t_weights, .int v_t_houses, .int v_t_limit, .int v_t_movedIn, .int v_t_evicted, .int v_t_built, .int v_t_tornDown])), (a_t_weights, .inr (2, [.ref a_t_weights_cells])), (a_t_weights_cells, .inl (cA, 193, .inl f_t_weights_cells)), (a_t_keys, .inr (2, [.ref a_t_keys_cells])), (a_t_keys_cells, .inl (cA, 193, .inl f_t_keys_cells_15))] := hD
  refine lv_aload_n hx hb dX4_insertHouse_18 rfl (lv_at hl 1 rfl) ?_
  refine va_get (D := (dC, dI)) (ci := 3) (C := RX4) (T := TX4) (N := 8) hx hb hts iX4_insertHouse_X4 hown hK hP 0 rfl rfl 1 (by decide) (hts _ (List.mem_of_getElem? (i := 3) rfl)) (fun _ h9 => h9) rfl dX4_insertHouse_19 ?_
  refine lv_iload_n hx hb dX4_insertHouse_22 rfl (lv_at hl 0 rfl) ?_
  refine lv_aload_n hx hb dX4_insertHouse_23 rfl (lv_at hl 1 rfl) ?_
  refine va_get (D := (dC, dI)) (ci := 3) (C := RX4) (T := TX4) (N := 8) hx hb hts iX4_insertHouse_X4 hown hK hP 0 rfl rfl 2 (by decide) (hts _ (List.mem_of_getElem? (i := 2) rfl)) (fun _ h9 => h9) rfl dX4_insertHouse_24 ?_
  obtain ⟨f_t_weights_cells_27, e27, hm⟩ := bs hm
  try dsimp only at hm
  refine mu_callVv (wr := [(a_t, .inr (3, [.ref a_t_keys, .ref a_t_weights, .int v_t_houses, .int v_t_limit, .int v_t_movedIn, .int v_t_evicted, .int v_t_built, .int v_t_tornDown])), (a_t_keys, .inr (2, [.ref a_t_keys_cells])), (a_t_keys_cells, .inl (cA, 193, .inl f_t_keys_cells_15))]) ⟨hx, hb, hml, hown, hts⟩ (kX3_openAt l dC dI cA a_t_weights a_t_weights_cells 193 (by decide) f_t_weights_cells r2 v_t_houses _ f_t_weights_cells_27 e27) (cwV 2 hts gX4_insertHouse_X3_openAt rfl rfl rfl hdX3_openAt ⟨Nat.le_of_ble_eq_true rfl, Nat.le_of_ble_eq_true rfl⟩) hP hD hS hA hK [1, 2] [0, 3, 4] rfl rfl rfl rfl (by decide) rfl rfl rfl hl.1 rfl (Nat.le_of_ble_eq_true rfl) dX4_insertHouse_27 ⟨Nat.zero_le _, Nat.zero_le _⟩ (fun H locs hP hD hS => ?_)
  have hP : va_P (dC, dI) vwCl [(a_t, .inr (3, [.ref a_t_keys, .ref a_t_weights, .int v_t_houses, .int v_t_limit, .int v_t_movedIn, .int v_t_evicted, .int v_t_built, .int v_t_tornDown])), (a_t_keys, .inr (2, [.ref a_t_keys_cells])), (a_t_keys_cells, .inl (cA, 193, .inl f_t_keys_cells_15)), (a_t_weights, .inr (2, [.ref a_t_weights_cells])), (a_t_weights_cells, .inl (cA, 193, .inl f_t_weights_cells_27))] H := hP
  have hD : va_D A [(a_t, .inr (3, [.ref a_t_keys, .ref a_t_weights, .int v_t_houses, .int v_t_limit, .int v_t_movedIn, .int v_t_evicted, .int v_t_built, .int v_t_tornDown])), (a_t_keys, .inr (2, [.ref a_t_keys_cells])), (a_t_keys_cells, .inl (cA, 193, .inl f_t_keys_cells_15)), (a_t_weights, .inr (2, [.ref a_t_weights_cells])), (a_t_weights_cells, .inl (cA, 193, .inl f_t_weights_cells_27))] := hD
  refine lv_aload_n hx hb dX4_insertHouse_30 rfl (lv_at hl 1 rfl) ?_
  refine lv_iload_n hx hb dX4_insertHouse_31 rfl (lv_at hl 0 rfl) ?_
  refine lv_iload_n hx hb dX4_insertHouse_32 rfl (lv_at hl 2 rfl) ?_
  refine lv_iconst (v := (-1)) hx hb dX4_insertHouse_33 (by decide) ?_
  obtain ⟨⟨f_t_keys_cells_34, f_t_weights_cells_34⟩, e34, hm⟩ := bs hm
  try dsimp only at hm
  refine mu_callVv (wr := []) ⟨hx, hb, hml, hown, hts⟩ (kX4_write l dC dI cA a_t a_t_keys a_t_weights a_t_keys_cells a_t_weights_cells v_t_houses v_t_limit v_t_movedIn v_t_evicted v_t_built v_t_tornDown f_t_keys_cells_15 f_t_weights_cells_27 r2 p1 (-1) _ f_t_keys_cells_34 f_t_weights_cells_34 e34) (cwV 3 hts gX4_insertHouse_X4_write rfl rfl rfl hdX4_write ⟨Nat.le_of_ble_eq_true rfl, Nat.le_of_ble_eq_true rfl⟩) hP hD hS hA hK [0, 1, 2, 3, 4] [] rfl rfl rfl rfl (by decide) rfl rfl rfl hl.1 rfl (Nat.le_of_ble_eq_true rfl) dX4_insertHouse_34 ⟨Nat.zero_le _, Nat.zero_le _⟩ (fun H locs hP hD hS => ?_)
  have hP : va_P (dC, dI) vwCl [(a_t, .inr (3, [.ref a_t_keys, .ref a_t_weights, .int v_t_houses, .int v_t_limit, .int v_t_movedIn, .int v_t_evicted, .int v_t_built, .int v_t_tornDown])), (a_t_keys, .inr (2, [.ref a_t_keys_cells])), (a_t_keys_cells, .inl (cA, 193, .inl f_t_keys_cells_34)), (a_t_weights, .inr (2, [.ref a_t_weights_cells])), (a_t_weights_cells, .inl (cA, 193, .inl f_t_weights_cells_34))] H := hP
  have hD : va_D A [(a_t, .inr (3, [.ref a_t_keys, .ref a_t_weights, .int v_t_houses, .int v_t_limit, .int v_t_movedIn, .int v_t_evicted, .int v_t_built, .int v_t_tornDown])), (a_t_keys, .inr (2, [.ref a_t_keys_cells])), (a_t_keys_cells, .inl (cA, 193, .inl f_t_keys_cells_34)), (a_t_weights, .inr (2, [.ref a_t_weights_cells])), (a_t_weights_cells, .inl (cA, 193, .inl f_t_weights_cells_34))] := hD
  refine lv_aload_n hx hb dX4_insertHouse_37 rfl (lv_at hl 1 rfl) ?_
  refine lv_dup hx hb dX4_insertHouse_38 rfl ?_
  refine va_get (D := (dC, dI)) (ci := 3) (C := RX4) (T := TX4) (N := 8) hx hb hts iX4_insertHouse_X4 hown hK hP 0 rfl rfl 2 (by decide) (hts _ (List.mem_of_getElem? (i := 2) rfl)) (fun _ h9 => h9) rfl dX4_insertHouse_39 ?_
  refine lv_iconst (v := 1) hx hb dX4_insertHouse_42 (by decide) ?_
  refine lv_iadd hx hb dX4_insertHouse_43 ?_
  refine va_put (D := (dC, dI)) (ci := 3) (C := RX4) (T := TX4) (N := 8) (ty := .int) hx hb hts iX4_insertHouse_X4 tyX4 tyX4_ok nmX4 hown hK hP hD hS 0 rfl rfl 2 (by decide) (hts _ (List.mem_of_getElem? (i := 2) rfl)) (fun _ h9 => h9) rfl (by decide +kernel) rfl rfl (Nat.le_of_ble_eq_true rfl) dX4_insertHouse_44 (fun H locs hP hD hS => ?_)
  have hP : va_P (dC, dI) vwCl [(a_t, .inr (3, [.ref a_t_keys, .ref a_t_weights, .int (v_t_houses + 1), .int v_t_limit, .int v_t_movedIn, .int v_t_evicted, .int v_t_built, .int v_t_tornDown])), (a_t_keys, .inr (2, [.ref a_t_keys_cells])), (a_t_keys_cells, .inl (cA, 193, .inl f_t_keys_cells_34)), (a_t_weights, .inr (2, [.ref a_t_weights_cells])), (a_t_weights_cells, .inl (cA, 193, .inl f_t_weights_cells_34))] H := hP
  have hD : va_D A [(a_t, .inr (3, [.ref a_t_keys, .ref a_t_weights, .int (v_t_houses + 1), .int v_t_limit, .int v_t_movedIn, .int v_t_evicted, .int v_t_built, .int v_t_tornDown])), (a_t_keys, .inr (2, [.ref a_t_keys_cells])), (a_t_keys_cells, .inl (cA, 193, .inl f_t_keys_cells_34)), (a_t_weights, .inr (2, [.ref a_t_weights_cells])), (a_t_weights_cells, .inl (cA, 193, .inl f_t_weights_cells_34))] := hD
  cases hm
  exact mu_vret hx hb hr hP hD hS hK [0, 1, 2, 3, 4] rfl (by decide) dX4_insertHouse_47 hlocks
def mX4_dropHouse (v_t_houses : Int32) (f_t_keys_cells : Nat → Int32) (f_t_weights_cells : Nat → Int32) (p1 : Int32) : Option (Int32 × (Nat → Int32) × (Nat → Int32)) :=
  ((mX3_closeAt 193 f_t_keys_cells p1 v_t_houses).bind fun f_t_keys_cells_9 =>
  ((mX3_closeAt 193 f_t_weights_cells p1 v_t_houses).bind fun f_t_weights_cells_21 =>
  some ((v_t_houses - 1), f_t_keys_cells_9, f_t_weights_cells_21)))
abbrev rmX4_dropHouse : Room := { frames := 2, cells := 0, slots := 0, locals := 45 }
abbrev wX4_dropHouse (cA : ClassId) (a_t a_t_keys a_t_weights a_t_keys_cells a_t_weights_cells : Nat) (v_t_houses v_t_limit v_t_movedIn v_t_evicted v_t_built v_t_tornDown : Int32) (f_t_keys_cells f_t_weights_cells : Nat → Int32) : va_W := [(a_t, .inr (3, [.ref a_t_keys, .ref a_t_weights, .int v_t_houses, .int v_t_limit, .int v_t_movedIn, .int v_t_evicted, .int v_t_built, .int v_t_tornDown])), (a_t_keys, .inr (2, [.ref a_t_keys_cells])), (a_t_keys_cells, .inl (cA, 193, .inl f_t_keys_cells)), (a_t_weights, .inr (2, [.ref a_t_weights_cells])), (a_t_weights_cells, .inl (cA, 193, .inl f_t_weights_cells))]
theorem iX4_dropHouse_X4 : ∀ w ∈ wsX40, w ∈ wsX4_dropHouse := (fun _ h => List.mem_cons_of_mem _ (List.mem_append_left _ (List.mem_append_right _ h)))
theorem hdX4_dropHouse : yX4_dropHouse.cls = RX4 ∧ yX4_dropHouse.cls ≠ "java/lang/invoke/MethodHandle" ∧ yX4_dropHouse.cls ≠ "java/lang/invoke/VarHandle" ∧ (parseMethodDescriptor yX4_dropHouse.desc).map (fun d => d.parameters.length) = some 1 := by decide +kernel
set_option maxHeartbeats 4000000 in
set_option maxRecDepth 100000 in
theorem kX4_dropHouse (l : Launch) (dC : Nat → ClassId) (dI : Nat → Nat → Nat) (cA : ClassId) (a_t a_t_keys a_t_weights a_t_keys_cells a_t_weights_cells : Nat) (v_t_houses v_t_limit v_t_movedIn v_t_evicted v_t_built v_t_tornDown : Int32) (f_t_keys_cells f_t_weights_cells : Nat → Int32) (p1 : Int32) (sz : Nat) (o_v_t_houses : Int32) (o_f_t_keys_cells o_f_t_weights_cells : Nat → Int32) (hm : (mX4_dropHouse v_t_houses f_t_keys_cells f_t_weights_cells p1) = some (o_v_t_houses, o_f_t_keys_cells, o_f_t_weights_cells)) : Met l yX4_dropHouse wsX4_dropHouse rmX4_dropHouse (mpc (dC, dI) [(cA, .int)] (wX4_dropHouse cA a_t a_t_keys a_t_weights a_t_keys_cells a_t_weights_cells v_t_houses v_t_limit v_t_movedIn v_t_evicted v_t_built v_t_tornDown f_t_keys_cells f_t_weights_cells) [.ref a_t, .int p1] sz) (mqv (dC, dI) [(cA, .int)] (va_A (wX4_dropHouse cA a_t a_t_keys a_t_weights a_t_keys_cells a_t_weights_cells v_t_houses v_t_limit v_t_movedIn v_t_evicted v_t_built v_t_tornDown f_t_keys_cells f_t_weights_cells) sz) (wX4_dropHouse cA a_t a_t_keys a_t_weights a_t_keys_cells a_t_weights_cells o_v_t_houses v_t_limit v_t_movedIn v_t_evicted v_t_built v_t_tornDown o_f_t_keys_cells o_f_t_weights_cells)) 0 0 (va_A (wX4_dropHouse cA a_t a_t_keys a_t_weights a_t_keys_cells a_t_weights_cells v_t_houses v_t_limit v_t_movedIn v_t_evicted v_t_built v_t_tornDown f_t_keys_cells f_t_weights_cells) sz) := by
  unfold mX4_dropHouse at hm
  refine mu_ofW (Qc := fun A => mqv (dC, dI) [(cA, .int)] A (wX4_dropHouse cA a_t a_t_keys a_t_weights a_t_keys_cells a_t_weights_cells o_v_t_houses v_t_limit v_t_movedIn v_t_evicted v_t_built v_t_tornDown o_f_t_keys_cells o_f_t_weights_cells)) (cc := cX4_dropHouse) (maxL := 2) (ret := none) (own := RX4) (by decide) rfl rfl (Nat.le_of_ble_eq_true rfl) ?_
  intro p e s m args below meth c hx hb hr hts hown hlocks hml hin A hA hP hD hS hK ls hl
  have hl : lv_has ls 2 [(0, .ref a_t), (1, .int p1)] := hl
  have hP : va_P (dC, dI) vwCl [(a_t, .inr (3, [.ref a_t_keys, .ref a_t_weights, .int v_t_houses, .int v_t_limit, .int v_t_movedIn, .int v_t_evicted, .int v_t_built, .int v_t_tornDown])), (a_t_keys, .inr (2, [.ref a_t_keys_cells])), (a_t_keys_cells, .inl (cA, 193, .inl f_t_keys_cells)), (a_t_weights, .inr (2, [.ref a_t_weights_cells])), (a_t_weights_cells, .inl (cA, 193, .inl f_t_weights_cells))] s.heap := hP
  have hD : va_D A [(a_t, .inr (3, [.ref a_t_keys, .ref a_t_weights, .int v_t_houses, .int v_t_limit, .int v_t_movedIn, .int v_t_evicted, .int v_t_built, .int v_t_tornDown])), (a_t_keys, .inr (2, [.ref a_t_keys_cells])), (a_t_keys_cells, .inl (cA, 193, .inl f_t_keys_cells)), (a_t_weights, .inr (2, [.ref a_t_weights_cells])), (a_t_weights_cells, .inl (cA, 193, .inl f_t_weights_cells))] := hD
  refine lv_aload_n hx hb dX4_dropHouse_0 rfl (lv_at hl 0 rfl) ?_
  refine va_get (D := (dC, dI)) (ci := 3) (C := RX4) (T := TX4) (N := 8) hx hb hts iX4_dropHouse_X4 hown hK hP 0 rfl rfl 0 (by decide) (hts _ (List.mem_of_getElem? (i := 1) rfl)) (fun _ h9 => h9) rfl dX4_dropHouse_1 ?_
  refine lv_iload_n hx hb dX4_dropHouse_4 rfl (lv_at hl 1 rfl) ?_
  refine lv_aload_n hx hb dX4_dropHouse_5 rfl (lv_at hl 0 rfl) ?_
  refine va_get (D := (dC, dI)) (ci := 3) (C := RX4) (T := TX4) (N := 8) hx hb hts iX4_dropHouse_X4 hown hK hP 0 rfl rfl 2 (by decide) (hts _ (List.mem_of_getElem? (i := 2) rfl)) (fun _ h9 => h9) rfl dX4_dropHouse_6 ?_
  obtain ⟨f_t_keys_cells_9, e9, hm⟩ := bs hm
  try dsimp only at hm
  refine mu_callVv (wr := [(a_t, .inr (3, [.ref a_t_keys, .ref a_t_weights, .int v_t_houses, .int v_t_limit, .int v_t_movedIn, .int v_t_evicted, .int v_t_built, .int v_t_tornDown])), (a_t_weights, .inr (2, [.ref a_t_weights_cells])), (a_t_weights_cells, .inl (cA, 193, .inl f_t_weights_cells))]) ⟨hx, hb, hml, hown, hts⟩ (kX3_closeAt l dC dI cA a_t_keys a_t_keys_cells 193 (by decide) f_t_keys_cells p1 v_t_houses _ f_t_keys_cells_9 e9) (cwV 2 hts gX4_dropHouse_X3_closeAt rfl rfl rfl hdX3_closeAt ⟨Nat.le_of_ble_eq_true rfl, Nat.le_of_ble_eq_true rfl⟩) hP hD hS hA hK [1, 2] [0, 3, 4] rfl rfl rfl rfl (by decide) rfl rfl rfl hl.1 rfl (Nat.le_of_ble_eq_true rfl) dX4_dropHouse_9 ⟨Nat.zero_le _, Nat.zero_le _⟩ (fun H locs hP hD hS => ?_)
  have hP : va_P (dC, dI) vwCl [(a_t, .inr (3, [.ref a_t_keys, .ref a_t_weights, .int v_t_houses, .int v_t_limit, .int v_t_movedIn, .int v_t_evicted, .int v_t_built, .int v_t_tornDown])), (a_t_weights, .inr (2, [.ref a_t_weights_cells])), (a_t_weights_cells, .inl (cA, 193, .inl f_t_weights_cells)), (a_t_keys, .inr (2, [.ref a_t_keys_cells])), (a_t_keys_cells, .inl (cA, 193, .inl f_t_keys_cells_9))] H := hP
  have hD : va_D A [(a_t, .inr (3, [.ref a_t_keys, .ref a_t_weights, .int v_t_houses, .int v_t_limit, .int v_t_movedIn, .int v_t_evicted, .int v_t_built, .int v_t_tornDown])), (a_t_weights, .inr (2, [.ref a_t_weights_cells])), (a_t_weights_cells, .inl (cA, 193, .inl f_t_weights_cells)), (a_t_keys, .inr (2, [.ref a_t_keys_cells])), (a_t_keys_cells, .inl (cA, 193, .inl f_t_keys_cells_9))] := hD
  refine lv_aload_n hx hb dX4_dropHouse_12 rfl (lv_at hl 0 rfl) ?_
  refine va_get (D := (dC, dI)) (ci := 3) (C := RX4) (T := TX4) (N := 8) hx hb hts iX4_dropHouse_X4 hown hK hP 0 rfl rfl 1 (by decide) (hts _ (List.mem_of_getElem? (i := 3) rfl)) (fun _ h9 => h9) rfl dX4_dropHouse_13 ?_
  refine lv_iload_n hx hb dX4_dropHouse_16 rfl (lv_at hl 1 rfl) ?_
  refine lv_aload_n hx hb dX4_dropHouse_17 rfl (lv_at hl 0 rfl) ?_
  refine va_get (D := (dC, dI)) (ci := 3) (C := RX4) (T := TX4) (N := 8) hx hb hts iX4_dropHouse_X4 hown hK hP 0 rfl rfl 2 (by decide) (hts _ (List.mem_of_getElem? (i := 2) rfl)) (fun _ h9 => h9) rfl dX4_dropHouse_18 ?_
  obtain ⟨f_t_weights_cells_21, e21, hm⟩ := bs hm
  try dsimp only at hm
  refine mu_callVv (wr := [(a_t, .inr (3, [.ref a_t_keys, .ref a_t_weights, .int v_t_houses, .int v_t_limit, .int v_t_movedIn, .int v_t_evicted, .int v_t_built, .int v_t_tornDown])), (a_t_keys, .inr (2, [.ref a_t_keys_cells])), (a_t_keys_cells, .inl (cA, 193, .inl f_t_keys_cells_9))]) ⟨hx, hb, hml, hown, hts⟩ (kX3_closeAt l dC dI cA a_t_weights a_t_weights_cells 193 (by decide) f_t_weights_cells p1 v_t_houses _ f_t_weights_cells_21 e21) (cwV 2 hts gX4_dropHouse_X3_closeAt rfl rfl rfl hdX3_closeAt ⟨Nat.le_of_ble_eq_true rfl, Nat.le_of_ble_eq_true rfl⟩) hP hD hS hA hK [1, 2] [0, 3, 4] rfl rfl rfl rfl (by decide) rfl rfl rfl hl.1 rfl (Nat.le_of_ble_eq_true rfl) dX4_dropHouse_21 ⟨Nat.zero_le _, Nat.zero_le _⟩ (fun H locs hP hD hS => ?_)
  have hP : va_P (dC, dI) vwCl [(a_t, .inr (3, [.ref a_t_keys, .ref a_t_weights, .int v_t_houses, .int v_t_limit, .int v_t_movedIn, .int v_t_evicted, .int v_t_built, .int v_t_tornDown])), (a_t_keys, .inr (2, [.ref a_t_keys_cells])), (a_t_keys_cells, .inl (cA, 193, .inl f_t_keys_cells_9)), (a_t_weights, .inr (2, [.ref a_t_weights_cells])), (a_t_weights_cells, .inl (cA, 193, .inl f_t_weights_cells_21))] H := hP
  have hD : va_D A [(a_t, .inr (3, [.ref a_t_keys, .ref a_t_weights, .int v_t_houses, .int v_t_limit, .int v_t_movedIn, .int v_t_evicted, .int v_t_built, .int v_t_tornDown])), (a_t_keys, .inr (2, [.ref a_t_keys_cells])), (a_t_keys_cells, .inl (cA, 193, .inl f_t_keys_cells_9)), (a_t_weights, .inr (2, [.ref a_t_weights_cells])), (a_t_weights_cells, .inl (cA, 193, .inl f_t_weights_cells_21))] := hD
  refine lv_aload_n hx hb dX4_dropHouse_24 rfl (lv_at hl 0 rfl) ?_
  refine lv_dup hx hb dX4_dropHouse_25 rfl ?_
  refine va_get (D := (dC, dI)) (ci := 3) (C := RX4) (T := TX4) (N := 8) hx hb hts iX4_dropHouse_X4 hown hK hP 0 rfl rfl 2 (by decide) (hts _ (List.mem_of_getElem? (i := 2) rfl)) (fun _ h9 => h9) rfl dX4_dropHouse_26 ?_
  refine lv_iconst (v := 1) hx hb dX4_dropHouse_29 (by decide) ?_
  refine lv_isub hx hb dX4_dropHouse_30 ?_
  refine va_put (D := (dC, dI)) (ci := 3) (C := RX4) (T := TX4) (N := 8) (ty := .int) hx hb hts iX4_dropHouse_X4 tyX4 tyX4_ok nmX4 hown hK hP hD hS 0 rfl rfl 2 (by decide) (hts _ (List.mem_of_getElem? (i := 2) rfl)) (fun _ h9 => h9) rfl (by decide +kernel) rfl rfl (Nat.le_of_ble_eq_true rfl) dX4_dropHouse_31 (fun H locs hP hD hS => ?_)
  have hP : va_P (dC, dI) vwCl [(a_t, .inr (3, [.ref a_t_keys, .ref a_t_weights, .int (v_t_houses - 1), .int v_t_limit, .int v_t_movedIn, .int v_t_evicted, .int v_t_built, .int v_t_tornDown])), (a_t_keys, .inr (2, [.ref a_t_keys_cells])), (a_t_keys_cells, .inl (cA, 193, .inl f_t_keys_cells_9)), (a_t_weights, .inr (2, [.ref a_t_weights_cells])), (a_t_weights_cells, .inl (cA, 193, .inl f_t_weights_cells_21))] H := hP
  have hD : va_D A [(a_t, .inr (3, [.ref a_t_keys, .ref a_t_weights, .int (v_t_houses - 1), .int v_t_limit, .int v_t_movedIn, .int v_t_evicted, .int v_t_built, .int v_t_tornDown])), (a_t_keys, .inr (2, [.ref a_t_keys_cells])), (a_t_keys_cells, .inl (cA, 193, .inl f_t_keys_cells_9)), (a_t_weights, .inr (2, [.ref a_t_weights_cells])), (a_t_weights_cells, .inl (cA, 193, .inl f_t_weights_cells_21))] := hD
  cases hm
  exact mu_vret hx hb hr hP hD hS hK [0, 1, 2, 3, 4] rfl (by decide) dX4_dropHouse_34 hlocks
def mX4_dropMarked_L4 (v_t_houses_L4 : Int32) (n_p1_cells : Nat) (f_p1_cells : Nat → Int32) : Nat → (Int32) → (Int32) → (Nat → Int32) → (Nat → Int32) → Option (Int32 × Int32 × (Nat → Int32) × (Nat → Int32))
  | 0, _, _, _, _ => none
  | n + 1, x2_4, x3_4, f_t_keys_cells_L4, f_t_weights_cells_L4 =>
    (if v_t_houses_L4 ≤ x3_4 then
      some (x2_4, x3_4, f_t_keys_cells_L4, f_t_weights_cells_L4)
    else
      (if (mX3_at n_p1_cells f_p1_cells x3_4) = 0 then
        ((mX4_write f_t_keys_cells_L4 f_t_weights_cells_L4 x2_4 (mX3_at 193 f_t_keys_cells_L4 x3_4) (mX3_at 193 f_t_weights_cells_L4 x3_4)).bind fun (f_t_keys_cells_38, f_t_weights_cells_38) =>
        mX4_dropMarked_L4 v_t_houses_L4 n_p1_cells f_p1_cells n (x2_4 + 1) (x3_4 + 1) f_t_keys_cells_38 f_t_weights_cells_38)
      else
        mX4_dropMarked_L4 v_t_houses_L4 n_p1_cells f_p1_cells n x2_4 (x3_4 + 1) f_t_keys_cells_L4 f_t_weights_cells_L4))
def mX4_dropMarked (n_p1_cells : Nat) (v_t_houses : Int32) (f_t_keys_cells : Nat → Int32) (f_t_weights_cells : Nat → Int32) (f_p1_cells : Nat → Int32) : Option (Int32 × Int32 × (Nat → Int32) × (Nat → Int32)) :=
  ((mX4_dropMarked_L4 v_t_houses n_p1_cells f_p1_cells FU 0 0 f_t_keys_cells f_t_weights_cells).bind fun (y2_4, y3_4, f_t_keys_cells_E4, f_t_weights_cells_E4) =>
  some ((v_t_houses - y2_4), y2_4, f_t_keys_cells_E4, f_t_weights_cells_E4))
abbrev rmX4_dropMarked : Room := { frames := 2, cells := 0, slots := 0, locals := 45 }
abbrev wX4_dropMarked (cA : ClassId) (a_t a_t_keys a_t_weights a_t_keys_cells a_t_weights_cells a_p1 a_p1_cells n_p1_cells : Nat) (v_t_houses v_t_limit v_t_movedIn v_t_evicted v_t_built v_t_tornDown : Int32) (f_t_keys_cells f_t_weights_cells f_p1_cells : Nat → Int32) : va_W := [(a_t, .inr (3, [.ref a_t_keys, .ref a_t_weights, .int v_t_houses, .int v_t_limit, .int v_t_movedIn, .int v_t_evicted, .int v_t_built, .int v_t_tornDown])), (a_t_keys, .inr (2, [.ref a_t_keys_cells])), (a_t_keys_cells, .inl (cA, 193, .inl f_t_keys_cells)), (a_t_weights, .inr (2, [.ref a_t_weights_cells])), (a_t_weights_cells, .inl (cA, 193, .inl f_t_weights_cells)), (a_p1, .inr (2, [.ref a_p1_cells])), (a_p1_cells, .inl (cA, n_p1_cells, .inl f_p1_cells))]
theorem iX4_dropMarked_X4 : ∀ w ∈ wsX40, w ∈ wsX4_dropMarked := (fun _ h => List.mem_cons_of_mem _ (List.mem_append_left _ (List.mem_append_right _ h)))
theorem hdX4_dropMarked : yX4_dropMarked.cls = RX4 ∧ yX4_dropMarked.cls ≠ "java/lang/invoke/MethodHandle" ∧ yX4_dropMarked.cls ≠ "java/lang/invoke/VarHandle" ∧ (parseMethodDescriptor yX4_dropMarked.desc).map (fun d => d.parameters.length) = some 1 := by decide +kernel
set_option maxHeartbeats 4000000 in
set_option maxRecDepth 100000 in
theorem wX4_dropMarked_L4 {p : Program} {l : Launch} {e : Env} {s : State} {m : MethodId} {args : Array Value} {below : List Frame} {meth : Method} {c : Code} {Q : State → Prop} {A : Nat → Prop} (dC : Nat → ClassId) (dI : Nat → Nat → Nat) (cA : ClassId) (a_t a_t_keys a_t_weights a_t_keys_cells a_t_weights_cells a_p1 a_p1_cells n_p1_cells : Nat) (hn_p1_cells : n_p1_cells < 2 ^ 31) (v_t_limit v_t_movedIn v_t_evicted v_t_built v_t_tornDown : Int32) (f_p1_cells : Nat → Int32) (v_t_houses_L4 y2_4 y3_4 : Int32) (f_t_keys_cells_E4 f_t_weights_cells_E4 : Nat → Int32) (hx : p.tables.exec = Jvm.exec) (hb : c.code = cX4_dropMarked) (hml : c.maxLocals = 4) (hown : s.vm.findClass RX4 = some m.cls) (hts : ∀ w ∈ wsX4_dropMarked, w.before args s = true) (hA : ∀ q, s.heap.size ≤ q → A q) (hK : va_K (dC, dI) vwCl [(cA, .int)] s)
    (kk0 : ∀ (H : Heap) (locs : List Loc), va_P (dC, dI) vwCl [(a_t, .inr (3, [.ref a_t_keys, .ref a_t_weights, .int v_t_houses_L4, .int v_t_limit, .int v_t_movedIn, .int v_t_evicted, .int v_t_built, .int v_t_tornDown])), (a_t_keys, .inr (2, [.ref a_t_keys_cells])), (a_t_keys_cells, .inl (cA, 193, .inl f_t_keys_cells_E4)), (a_t_weights, .inr (2, [.ref a_t_weights_cells])), (a_t_weights_cells, .inl (cA, 193, .inl f_t_weights_cells_E4)), (a_p1, .inr (2, [.ref a_p1_cells])), (a_p1_cells, .inl (cA, n_p1_cells, .inl f_p1_cells))] H → va_D A [(a_t, .inr (3, [.ref a_t_keys, .ref a_t_weights, .int v_t_houses_L4, .int v_t_limit, .int v_t_movedIn, .int v_t_evicted, .int v_t_built, .int v_t_tornDown])), (a_t_keys, .inr (2, [.ref a_t_keys_cells])), (a_t_keys_cells, .inl (cA, 193, .inl f_t_keys_cells_E4)), (a_t_weights, .inr (2, [.ref a_t_weights_cells])), (a_t_weights_cells, .inl (cA, 193, .inl f_t_weights_cells_E4)), (a_p1, .inr (2, [.ref a_p1_cells])), (a_p1_cells, .inl (cA, n_p1_cells, .inl f_p1_cells))] → va_S A s.heap H locs → ∀ ls : Array Slot, lv_has ls 4 [(0, .ref a_t), (1, .ref a_p1), (2, .int y2_4), (3, .int y3_4)] → W p l e (headSpec wsX4_dropMarked rmX4_dropMarked).room s m args below meth c H locs 0 0 Q (F0 m 50 ls [])) :
    ∀ (n : Nat) (x2_4 x3_4 : Int32) (f_t_keys_cells_L4 f_t_weights_cells_L4 : Nat → Int32), mX4_dropMarked_L4 v_t_houses_L4 n_p1_cells f_p1_cells n x2_4 x3_4 f_t_keys_cells_L4 f_t_weights_cells_L4 = some (y2_4, y3_4, f_t_keys_cells_E4, f_t_weights_cells_E4) → ∀ (H : Heap) (locs : List Loc), va_P (dC, dI) vwCl [(a_t, .inr (3, [.ref a_t_keys, .ref a_t_weights, .int v_t_houses_L4, .int v_t_limit, .int v_t_movedIn, .int v_t_evicted, .int v_t_built, .int v_t_tornDown])), (a_t_keys, .inr (2, [.ref a_t_keys_cells])), (a_t_keys_cells, .inl (cA, 193, .inl f_t_keys_cells_L4)), (a_t_weights, .inr (2, [.ref a_t_weights_cells])), (a_t_weights_cells, .inl (cA, 193, .inl f_t_weights_cells_L4)), (a_p1, .inr (2, [.ref a_p1_cells])), (a_p1_cells, .inl (cA, n_p1_cells, .inl f_p1_cells))] H → va_D A [(a_t, .inr (3, [.ref a_t_keys, .ref a_t_weights, .int v_t_houses_L4, .int v_t_limit, .int v_t_movedIn, .int v_t_evicted, .int v_t_built, .int v_t_tornDown])), (a_t_keys, .inr (2, [.ref a_t_keys_cells])), (a_t_keys_cells, .inl (cA, 193, .inl f_t_keys_cells_L4)), (a_t_weights, .inr (2, [.ref a_t_weights_cells])), (a_t_weights_cells, .inl (cA, 193, .inl f_t_weights_cells_L4)), (a_p1, .inr (2, [.ref a_p1_cells])), (a_p1_cells, .inl (cA, n_p1_cells, .inl f_p1_cells))] → va_S A s.heap H locs → ∀ ls : Array Slot, lv_has ls 4 [(0, .ref a_t), (1, .ref a_p1), (2, .int x2_4), (3, .int x3_4)] → W p l e (headSpec wsX4_dropMarked rmX4_dropMarked).room s m args below meth c H locs 0 0 Q (F0 m 4 ls []) := by
  intro n
  induction n with
  | zero =>
    intro x2_4 x3_4 f_t_keys_cells_L4 f_t_weights_cells_L4 hm
    cases hm
  | succ n ih =>
    intro x2_4 x3_4 f_t_keys_cells_L4 f_t_weights_cells_L4 hm H locs hP hD hS ls hl
    rw [mX4_dropMarked_L4] at hm
    refine lv_iload_n hx hb dX4_dropMarked_4 rfl (lv_at hl 3 rfl) ?_
    refine lv_aload_n hx hb dX4_dropMarked_5 rfl (lv_at hl 0 rfl) ?_
    refine va_get (D := (dC, dI)) (ci := 3) (C := RX4) (T := TX4) (N := 8) hx hb hts iX4_dropMarked_X4 hown hK hP 0 rfl rfl 2 (by decide) (hts _ (List.mem_of_getElem? (i := 1) rfl)) (fun _ h9 => h9) rfl dX4_dropMarked_6 ?_
    refine lv_icmp_ge (tgt := 50) hx hb dX4_dropMarked_9 (by decide) (fun c9 => ?_) (fun c9 => ?_)
    · rw [if_pos c9] at hm
      cases hm
      exact kk0 _ _ (hP.sub [0, 1, 2, 3, 4, 5, 6] rfl) (hD.sub [0, 1, 2, 3, 4, 5, 6] (by decide) rfl) hS _ (lv_sub hl [0, 1, 2, 3] rfl)
    · rw [if_neg c9] at hm
      refine lv_aload_n hx hb dX4_dropMarked_12 rfl (lv_at hl 1 rfl) ?_
      refine lv_iload_n hx hb dX4_dropMarked_13 rfl (lv_at hl 3 rfl) ?_
      refine ro_callVe ⟨hx, hb, hml, hown, hts⟩ (kX3_at l dC dI cA a_p1 a_p1_cells n_p1_cells hn_p1_cells f_p1_cells x3_4) (cwV 1 hts gX4_dropMarked_X3_at rfl rfl rfl hdX3_at ⟨Nat.le_of_ble_eq_true rfl, Nat.le_of_ble_eq_true rfl⟩) (hP.sub [5, 6] rfl) hK rfl rfl rfl hl.1 rfl (Nat.le_of_ble_eq_true rfl) dX4_dropMarked_14 ⟨Nat.zero_le _, Nat.zero_le _⟩ ?_
      refine lv_if_ne (tgt := 44) hx hb dX4_dropMarked_17 (by decide) (fun c17 => ?_) (fun c17 => ?_)
      · rw [if_neg c17] at hm
        refine lv_iinc (v := (x3_4 + 1)) (lv' := [(3, .int (x3_4 + 1)), (0, .ref a_t), (1, .ref a_p1), (2, .int x2_4)]) hx hb dX4_dropMarked_44 hl (k := 3) rfl rfl (by decide) rfl (fun ls hl => ?_)
        refine lv_goto (tgt := 4) hx hb dX4_dropMarked_47 (by decide) ?_
        exact ih _ _ _ _ hm _ _ (hP.sub [0, 1, 2, 3, 4, 5, 6] rfl) (hD.sub [0, 1, 2, 3, 4, 5, 6] (by decide) rfl) hS _ (lv_sub hl [1, 2, 3, 0] rfl)
      · rw [if_pos c17] at hm
        refine lv_aload_n hx hb dX4_dropMarked_20 rfl (lv_at hl 0 rfl) ?_
        refine lv_iload_n hx hb dX4_dropMarked_21 rfl (lv_at hl 2 rfl) ?_
        refine lv_aload_n hx hb dX4_dropMarked_22 rfl (lv_at hl 0 rfl) ?_
        refine va_get (D := (dC, dI)) (ci := 3) (C := RX4) (T := TX4) (N := 8) hx hb hts iX4_dropMarked_X4 hown hK hP 0 rfl rfl 0 (by decide) (hts _ (List.mem_of_getElem? (i := 2) rfl)) (fun _ h9 => h9) rfl dX4_dropMarked_23 ?_
        refine lv_iload_n hx hb dX4_dropMarked_26 rfl (lv_at hl 3 rfl) ?_
        refine ro_callVe ⟨hx, hb, hml, hown, hts⟩ (kX3_at l dC dI cA a_t_keys a_t_keys_cells 193 (by decide) f_t_keys_cells_L4 x3_4) (cwV 1 hts gX4_dropMarked_X3_at rfl rfl rfl hdX3_at ⟨Nat.le_of_ble_eq_true rfl, Nat.le_of_ble_eq_true rfl⟩) (hP.sub [1, 2] rfl) hK rfl rfl rfl hl.1 rfl (Nat.le_of_ble_eq_true rfl) dX4_dropMarked_27 ⟨Nat.zero_le _, Nat.zero_le _⟩ ?_
        refine lv_aload_n hx hb dX4_dropMarked_30 rfl (lv_at hl 0 rfl) ?_
        refine va_get (D := (dC, dI)) (ci := 3) (C := RX4) (T := TX4) (N := 8) hx hb hts iX4_dropMarked_X4 hown hK hP 0 rfl rfl 1 (by decide) (hts _ (List.mem_of_getElem? (i := 3) rfl)) (fun _ h9 => h9) rfl dX4_dropMarked_31 ?_
        refine lv_iload_n hx hb dX4_dropMarked_34 rfl (lv_at hl 3 rfl) ?_
        refine ro_callVe ⟨hx, hb, hml, hown, hts⟩ (kX3_at l dC dI cA a_t_weights a_t_weights_cells 193 (by decide) f_t_weights_cells_L4 x3_4) (cwV 1 hts gX4_dropMarked_X3_at rfl rfl rfl hdX3_at ⟨Nat.le_of_ble_eq_true rfl, Nat.le_of_ble_eq_true rfl⟩) (hP.sub [3, 4] rfl) hK rfl rfl rfl hl.1 rfl (Nat.le_of_ble_eq_true rfl) dX4_dropMarked_35 ⟨Nat.zero_le _, Nat.zero_le _⟩ ?_
        obtain ⟨⟨f_t_keys_cells_38, f_t_weights_cells_38⟩, e38, hm⟩ := bs hm
        try dsimp only at hm
        refine mu_callVv (wr := [(a_p1, .inr (2, [.ref a_p1_cells])), (a_p1_cells, .inl (cA, n_p1_cells, .inl f_p1_cells))]) ⟨hx, hb, hml, hown, hts⟩ (kX4_write l dC dI cA a_t a_t_keys a_t_weights a_t_keys_cells a_t_weights_cells v_t_houses_L4 v_t_limit v_t_movedIn v_t_evicted v_t_built v_t_tornDown f_t_keys_cells_L4 f_t_weights_cells_L4 x2_4 (mX3_at 193 f_t_keys_cells_L4 x3_4) (mX3_at 193 f_t_weights_cells_L4 x3_4) _ f_t_keys_cells_38 f_t_weights_cells_38 e38) (cwV 3 hts gX4_dropMarked_X4_write rfl rfl rfl hdX4_write ⟨Nat.le_of_ble_eq_true rfl, Nat.le_of_ble_eq_true rfl⟩) hP hD hS hA hK [0, 1, 2, 3, 4] [5, 6] rfl rfl rfl rfl (by decide) rfl rfl rfl hl.1 rfl (Nat.le_of_ble_eq_true rfl) dX4_dropMarked_38 ⟨Nat.zero_le _, Nat.zero_le _⟩ (fun H locs hP hD hS => ?_)
        have hP : va_P (dC, dI) vwCl [(a_p1, .inr (2, [.ref a_p1_cells])), (a_p1_cells, .inl (cA, n_p1_cells, .inl f_p1_cells)), (a_t, .inr (3, [.ref a_t_keys, .ref a_t_weights, .int v_t_houses_L4, .int v_t_limit, .int v_t_movedIn, .int v_t_evicted, .int v_t_built, .int v_t_tornDown])), (a_t_keys, .inr (2, [.ref a_t_keys_cells])), (a_t_keys_cells, .inl (cA, 193, .inl f_t_keys_cells_38)), (a_t_weights, .inr (2, [.ref a_t_weights_cells])), (a_t_weights_cells, .inl (cA, 193, .inl f_t_weights_cells_38))] H := hP
        have hD : va_D A [(a_p1, .inr (2, [.ref a_p1_cells])), (a_p1_cells, .inl (cA, n_p1_cells, .inl f_p1_cells)), (a_t, .inr (3, [.ref a_t_keys, .ref a_t_weights, .int v_t_houses_L4, .int v_t_limit, .int v_t_movedIn, .int v_t_evicted, .int v_t_built, .int v_t_tornDown])), (a_t_keys, .inr (2, [.ref a_t_keys_cells])), (a_t_keys_cells, .inl (cA, 193, .inl f_t_keys_cells_38)), (a_t_weights, .inr (2, [.ref a_t_weights_cells])), (a_t_weights_cells, .inl (cA, 193, .inl f_t_weights_cells_38))] := hD
        refine lv_iinc (v := (x2_4 + 1)) (lv' := [(2, .int (x2_4 + 1)), (0, .ref a_t), (1, .ref a_p1), (3, .int x3_4)]) hx hb dX4_dropMarked_41 hl (k := 2) rfl rfl (by decide) rfl (fun ls hl => ?_)
        refine lv_iinc (v := (x3_4 + 1)) (lv' := [(3, .int (x3_4 + 1)), (2, .int (x2_4 + 1)), (0, .ref a_t), (1, .ref a_p1)]) hx hb dX4_dropMarked_44 hl (k := 3) rfl rfl (by decide) rfl (fun ls hl => ?_)
        refine lv_goto (tgt := 4) hx hb dX4_dropMarked_47 (by decide) ?_
        exact ih _ _ _ _ hm _ _ (hP.sub [2, 3, 4, 5, 6, 0, 1] rfl) (hD.sub [2, 3, 4, 5, 6, 0, 1] (by decide) rfl) hS _ (lv_sub hl [2, 3, 1, 0] rfl)
set_option maxHeartbeats 4000000 in
set_option maxRecDepth 100000 in
theorem kX4_dropMarked (l : Launch) (dC : Nat → ClassId) (dI : Nat → Nat → Nat) (cA : ClassId) (a_t a_t_keys a_t_weights a_t_keys_cells a_t_weights_cells a_p1 a_p1_cells n_p1_cells : Nat) (hn_p1_cells : n_p1_cells < 2 ^ 31) (v_t_houses v_t_limit v_t_movedIn v_t_evicted v_t_built v_t_tornDown : Int32) (f_t_keys_cells f_t_weights_cells f_p1_cells : Nat → Int32) (sz : Nat) (r o_v_t_houses : Int32) (o_f_t_keys_cells o_f_t_weights_cells : Nat → Int32) (hm : (mX4_dropMarked n_p1_cells v_t_houses f_t_keys_cells f_t_weights_cells f_p1_cells) = some (r, o_v_t_houses, o_f_t_keys_cells, o_f_t_weights_cells)) : Met l yX4_dropMarked wsX4_dropMarked rmX4_dropMarked (mpc (dC, dI) [(cA, .int)] (wX4_dropMarked cA a_t a_t_keys a_t_weights a_t_keys_cells a_t_weights_cells a_p1 a_p1_cells n_p1_cells v_t_houses v_t_limit v_t_movedIn v_t_evicted v_t_built v_t_tornDown f_t_keys_cells f_t_weights_cells f_p1_cells) [.ref a_t, .ref a_p1] sz) (mqi (dC, dI) [(cA, .int)] (va_A (wX4_dropMarked cA a_t a_t_keys a_t_weights a_t_keys_cells a_t_weights_cells a_p1 a_p1_cells n_p1_cells v_t_houses v_t_limit v_t_movedIn v_t_evicted v_t_built v_t_tornDown f_t_keys_cells f_t_weights_cells f_p1_cells) sz) (wX4_dropMarked cA a_t a_t_keys a_t_weights a_t_keys_cells a_t_weights_cells a_p1 a_p1_cells n_p1_cells o_v_t_houses v_t_limit v_t_movedIn v_t_evicted v_t_built v_t_tornDown o_f_t_keys_cells o_f_t_weights_cells f_p1_cells) (fun x => x = r)) 0 0 (va_A (wX4_dropMarked cA a_t a_t_keys a_t_weights a_t_keys_cells a_t_weights_cells a_p1 a_p1_cells n_p1_cells v_t_houses v_t_limit v_t_movedIn v_t_evicted v_t_built v_t_tornDown f_t_keys_cells f_t_weights_cells f_p1_cells) sz) := by
  unfold mX4_dropMarked at hm
  refine mu_ofW (Qc := fun A => mqi (dC, dI) [(cA, .int)] A (wX4_dropMarked cA a_t a_t_keys a_t_weights a_t_keys_cells a_t_weights_cells a_p1 a_p1_cells n_p1_cells o_v_t_houses v_t_limit v_t_movedIn v_t_evicted v_t_built v_t_tornDown o_f_t_keys_cells o_f_t_weights_cells f_p1_cells) (fun x => x = r)) (cc := cX4_dropMarked) (maxL := 4) (ret := (some .int)) (own := RX4) (by decide) rfl rfl (Nat.le_of_ble_eq_true rfl) ?_
  intro p e s m args below meth c hx hb hr hts hown hlocks hml hin A hA hP hD hS hK ls hl
  have hl : lv_has ls 4 [(0, .ref a_t), (1, .ref a_p1)] := hl
  have hP : va_P (dC, dI) vwCl [(a_t, .inr (3, [.ref a_t_keys, .ref a_t_weights, .int v_t_houses, .int v_t_limit, .int v_t_movedIn, .int v_t_evicted, .int v_t_built, .int v_t_tornDown])), (a_t_keys, .inr (2, [.ref a_t_keys_cells])), (a_t_keys_cells, .inl (cA, 193, .inl f_t_keys_cells)), (a_t_weights, .inr (2, [.ref a_t_weights_cells])), (a_t_weights_cells, .inl (cA, 193, .inl f_t_weights_cells)), (a_p1, .inr (2, [.ref a_p1_cells])), (a_p1_cells, .inl (cA, n_p1_cells, .inl f_p1_cells))] s.heap := hP
  have hD : va_D A [(a_t, .inr (3, [.ref a_t_keys, .ref a_t_weights, .int v_t_houses, .int v_t_limit, .int v_t_movedIn, .int v_t_evicted, .int v_t_built, .int v_t_tornDown])), (a_t_keys, .inr (2, [.ref a_t_keys_cells])), (a_t_keys_cells, .inl (cA, 193, .inl f_t_keys_cells)), (a_t_weights, .inr (2, [.ref a_t_weights_cells])), (a_t_weights_cells, .inl (cA, 193, .inl f_t_weights_cells)), (a_p1, .inr (2, [.ref a_p1_cells])), (a_p1_cells, .inl (cA, n_p1_cells, .inl f_p1_cells))] := hD
  refine lv_iconst (v := 0) hx hb dX4_dropMarked_0 (by decide) ?_
  refine lv_istore_n (lv' := [(2, .int 0), (0, .ref a_t), (1, .ref a_p1)]) hx hb dX4_dropMarked_1 rfl hl (by decide) rfl (fun ls hl => ?_)
  refine lv_iconst (v := 0) hx hb dX4_dropMarked_2 (by decide) ?_
  refine lv_istore_n (lv' := [(3, .int 0), (2, .int 0), (0, .ref a_t), (1, .ref a_p1)]) hx hb dX4_dropMarked_3 rfl hl (by decide) rfl (fun ls hl => ?_)
  obtain ⟨⟨y2_4, y3_4, f_t_keys_cells_E4, f_t_weights_cells_E4⟩, e4, hm⟩ := bs hm
  try dsimp only at hm
  refine wX4_dropMarked_L4 dC dI cA a_t a_t_keys a_t_weights a_t_keys_cells a_t_weights_cells a_p1 a_p1_cells n_p1_cells hn_p1_cells v_t_limit v_t_movedIn v_t_evicted v_t_built v_t_tornDown f_p1_cells v_t_houses y2_4 y3_4 f_t_keys_cells_E4 f_t_weights_cells_E4 hx hb hml hown hts hA hK ?_ FU _ _ _ _ e4 _ _ (hP.sub [0, 1, 2, 3, 4, 5, 6] rfl) (hD.sub [0, 1, 2, 3, 4, 5, 6] (by decide) rfl) hS _ (lv_sub hl [2, 3, 1, 0] rfl)
  · intro H locs hP hD hS ls hl
    refine lv_aload_n hx hb dX4_dropMarked_50 rfl (lv_at hl 0 rfl) ?_
    refine va_get (D := (dC, dI)) (ci := 3) (C := RX4) (T := TX4) (N := 8) hx hb hts iX4_dropMarked_X4 hown hK hP 0 rfl rfl 2 (by decide) (hts _ (List.mem_of_getElem? (i := 1) rfl)) (fun _ h9 => h9) rfl dX4_dropMarked_51 ?_
    refine lv_iload_n hx hb dX4_dropMarked_54 rfl (lv_at hl 2 rfl) ?_
    refine lv_isub hx hb dX4_dropMarked_55 ?_
    refine lv_istore_n (lv' := [(3, .int (v_t_houses - y2_4)), (0, .ref a_t), (1, .ref a_p1), (2, .int y2_4)]) hx hb dX4_dropMarked_56 rfl hl (by decide) rfl (fun ls hl => ?_)
    refine lv_aload_n hx hb dX4_dropMarked_57 rfl (lv_at hl 1 rfl) ?_
    refine lv_iload_n hx hb dX4_dropMarked_58 rfl (lv_at hl 3 rfl) ?_
    refine va_put (D := (dC, dI)) (ci := 3) (C := RX4) (T := TX4) (N := 8) (ty := .int) hx hb hts iX4_dropMarked_X4 tyX4 tyX4_ok nmX4 hown hK hP hD hS 0 rfl rfl 2 (by decide) (hts _ (List.mem_of_getElem? (i := 1) rfl)) (fun _ h9 => h9) rfl (by decide +kernel) rfl rfl (Nat.le_of_ble_eq_true rfl) dX4_dropMarked_59 (fun H locs hP hD hS => ?_)
    have hP : va_P (dC, dI) vwCl [(a_t, .inr (3, [.ref a_t_keys, .ref a_t_weights, .int y2_4, .int v_t_limit, .int v_t_movedIn, .int v_t_evicted, .int v_t_built, .int v_t_tornDown])), (a_t_keys, .inr (2, [.ref a_t_keys_cells])), (a_t_keys_cells, .inl (cA, 193, .inl f_t_keys_cells_E4)), (a_t_weights, .inr (2, [.ref a_t_weights_cells])), (a_t_weights_cells, .inl (cA, 193, .inl f_t_weights_cells_E4)), (a_p1, .inr (2, [.ref a_p1_cells])), (a_p1_cells, .inl (cA, n_p1_cells, .inl f_p1_cells))] H := hP
    have hD : va_D A [(a_t, .inr (3, [.ref a_t_keys, .ref a_t_weights, .int y2_4, .int v_t_limit, .int v_t_movedIn, .int v_t_evicted, .int v_t_built, .int v_t_tornDown])), (a_t_keys, .inr (2, [.ref a_t_keys_cells])), (a_t_keys_cells, .inl (cA, 193, .inl f_t_keys_cells_E4)), (a_t_weights, .inr (2, [.ref a_t_weights_cells])), (a_t_weights_cells, .inl (cA, 193, .inl f_t_weights_cells_E4)), (a_p1, .inr (2, [.ref a_p1_cells])), (a_p1_cells, .inl (cA, n_p1_cells, .inl f_p1_cells))] := hD
    refine lv_iload_n hx hb dX4_dropMarked_62 rfl (lv_at hl 0 rfl) ?_
    cases hm
    exact mu_iret hx hb hr rfl rfl hP hD hS hK [0, 1, 2, 3, 4, 5, 6] rfl (by decide) dX4_dropMarked_63 hlocks
