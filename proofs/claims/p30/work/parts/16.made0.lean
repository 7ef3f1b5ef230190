def mX0_init : Option (Int32 × Int32 × Int32 × Int32 × Int32 × Int32) :=
  some (0, 0, 0, 0, 0, 0)
abbrev rmX0_init : Room := { frames := 1, cells := 0, slots := 0, locals := 12 }
abbrev wX0_init (cA : ClassId) (a_t : Nat) (v_t_inCommand v_t_kind v_t_letters v_t_length v_t_number v_t_digits : Int32) : va_W := [(a_t, .inr (0, [.int v_t_inCommand, .int v_t_kind, .int v_t_letters, .int v_t_length, .int v_t_number, .int v_t_digits]))]
theorem iX0_init_X0 : ∀ w ∈ wsX00, w ∈ wsX0_init := (fun _ h => List.mem_cons_of_mem _ (List.mem_append_right _ h))
theorem hdX0_init : yX0_init.cls ≠ "java/lang/invoke/MethodHandle" ∧ yX0_init.cls ≠ "java/lang/invoke/VarHandle" ∧ (parseMethodDescriptor yX0_init.desc).map (fun d => d.parameters.length) = some 0 := by decide +kernel
set_option maxHeartbeats 4000000 in
set_option maxRecDepth 100000 in
theorem kX0_init (l : Launch) (dC : Nat → ClassId) (dI : Nat → Nat → Nat) (cA : ClassId) (a_t sz : Nat) (o_v_t_inCommand o_v_t_kind o_v_t_letters o_v_t_length o_v_t_number o_v_t_digits : Int32) (hm : mX0_init = some (o_v_t_inCommand, o_v_t_kind, o_v_t_letters, o_v_t_length, o_v_t_number, o_v_t_digits)) : Met l yX0_init wsX0_init rmX0_init (mpc (dC, dI) [(cA, .int)] [(a_t, .inr (0, [.int 0, .int 0, .int 0, .int 0, .int 0, .int 0]))] [.ref a_t] sz) (iB (S9 := Unit) (dC, dI) [(cA, .int)] (va_A [(a_t, .inr (0, [.int 0, .int 0, .int 0, .int 0, .int 0, .int 0]))] sz) (fun _ : Unit => (wX0_init cA a_t o_v_t_inCommand o_v_t_kind o_v_t_letters o_v_t_length o_v_t_number o_v_t_digits))) 0 0 (va_A [(a_t, .inr (0, [.int 0, .int 0, .int 0, .int 0, .int 0, .int 0]))] sz) := by
  unfold mX0_init at hm
  refine mu_ofW (Qc := fun A => iB (S9 := Unit) (dC, dI) [(cA, .int)] A (fun _ : Unit => (wX0_init cA a_t o_v_t_inCommand o_v_t_kind o_v_t_letters o_v_t_length o_v_t_number o_v_t_digits))) (cc := cX0_init) (maxL := 1) (ret := none) (own := RX0) (by decide) rfl rfl (Nat.le_of_ble_eq_true rfl) ?_
  intro p e s m args below meth c hx hb hr hts hown hlocks hml hin A hA hP hD hS hK ls hl
  have hin : meth.name = "<init>" := hin
  have hl : lv_has ls 1 [(0, .ref a_t)] := hl
  refine lv_aload_n hx hb dX0_init_0 rfl (lv_at hl 0 rfl) ?_
  refine W.objInit hx hb hown (hts _ (List.mem_of_getElem? (i := 1) rfl)) (hts _ (List.mem_of_getElem? (i := 2) rfl)) (hts _ (List.mem_of_getElem? (i := 3) rfl)) rfl (by rw [hml]; exact hl.1) rfl dX0_init_1 (Nat.le_of_ble_eq_true rfl) (Nat.le_of_ble_eq_true rfl) ?_
  refine W.eq (g2 := F0 m 4 ls []) rfl ?_
  refine lv_aload_n hx hb dX0_init_4 rfl (lv_at hl 0 rfl) ?_
  refine lv_iconst (v := 0) hx hb dX0_init_5 (by decide) ?_
  refine va_put (D := (dC, dI)) (ci := 0) (v := .int 0) (ty := .boolean) (C := RX0) (T := TX0) (N := 6) hx hb hts iX0_init_X0 tyX0 tyX0_ok nmX0 hown hK hP hD hS 0 rfl rfl 0 (by decide) (hts _ (List.mem_of_getElem? (i := 4) rfl)) (fun _ h9 => h9) rfl (by decide +kernel) rfl rfl (Nat.le_of_ble_eq_true rfl) dX0_init_6 (fun H locs hP hD hS => ?_)
  have hP : va_P (dC, dI) vwCl [(a_t, .inr (0, [.int 0, .int 0, .int 0, .int 0, .int 0, .int 0]))] H := hP
  have hD : va_D A [(a_t, .inr (0, [.int 0, .int 0, .int 0, .int 0, .int 0, .int 0]))] := hD
  refine lv_aload_n hx hb dX0_init_9 rfl (lv_at hl 0 rfl) ?_
  refine lv_iconst (v := 0) hx hb dX0_init_10 (by decide) ?_
  refine va_put (D := (dC, dI)) (ci := 0) (v := .int 0) (ty := .int) (C := RX0) (T := TX0) (N := 6) hx hb hts iX0_init_X0 tyX0 tyX0_ok nmX0 hown hK hP hD hS 0 rfl rfl 1 (by decide) (hts _ (List.mem_of_getElem? (i := 5) rfl)) (fun _ h9 => h9) rfl (by decide +kernel) rfl rfl (Nat.le_of_ble_eq_true rfl) dX0_init_11 (fun H locs hP hD hS => ?_)
  have hP : va_P (dC, dI) vwCl [(a_t, .inr (0, [.int 0, .int 0, .int 0, .int 0, .int 0, .int 0]))] H := hP
  have hD : va_D A [(a_t, .inr (0, [.int 0, .int 0, .int 0, .int 0, .int 0, .int 0]))] := hD
  refine lv_aload_n hx hb dX0_init_14 rfl (lv_at hl 0 rfl) ?_
  refine lv_iconst (v := 0) hx hb dX0_init_15 (by decide) ?_
  refine va_put (D := (dC, dI)) (ci := 0) (v := .int 0) (ty := .int) (C := RX0) (T := TX0) (N := 6) hx hb hts iX0_init_X0 tyX0 tyX0_ok nmX0 hown hK hP hD hS 0 rfl rfl 2 (by decide) (hts _ (List.mem_of_getElem? (i := 6) rfl)) (fun _ h9 => h9) rfl (by decide +kernel) rfl rfl (Nat.le_of_ble_eq_true rfl) dX0_init_16 (fun H locs hP hD hS => ?_)
  have hP : va_P (dC, dI) vwCl [(a_t, .inr (0, [.int 0, .int 0, .int 0, .int 0, .int 0, .int 0]))] H := hP
  have hD : va_D A [(a_t, .inr (0, [.int 0, .int 0, .int 0, .int 0, .int 0, .int 0]))] := hD
  refine lv_aload_n hx hb dX0_init_19 rfl (lv_at hl 0 rfl) ?_
  refine lv_iconst (v := 0) hx hb dX0_init_20 (by decide) ?_
  refine va_put (D := (dC, dI)) (ci := 0) (v := .int 0) (ty := .int) (C := RX0) (T := TX0) (N := 6) hx hb hts iX0_init_X0 tyX0 tyX0_ok nmX0 hown hK hP hD hS 0 rfl rfl 3 (by decide) (hts _ (List.mem_of_getElem? (i := 7) rfl)) (fun _ h9 => h9) rfl (by decide +kernel) rfl rfl (Nat.le_of_ble_eq_true rfl) dX0_init_21 (fun H locs hP hD hS => ?_)
  have hP : va_P (dC, dI) vwCl [(a_t, .inr (0, [.int 0, .int 0, .int 0, .int 0, .int 0, .int 0]))] H := hP
  have hD : va_D A [(a_t, .inr (0, [.int 0, .int 0, .int 0, .int 0, .int 0, .int 0]))] := hD
  refine lv_aload_n hx hb dX0_init_24 rfl (lv_at hl 0 rfl) ?_
  refine lv_iconst (v := 0) hx hb dX0_init_25 (by decide) ?_
  refine va_put (D := (dC, dI)) (ci := 0) (v := .int 0) (ty := .int) (C := RX0) (T := TX0) (N := 6) hx hb hts iX0_init_X0 tyX0 tyX0_ok nmX0 hown hK hP hD hS 0 rfl rfl 4 (by decide) (hts _ (List.mem_of_getElem? (i := 8) rfl)) (fun _ h9 => h9) rfl (by decide +kernel) rfl rfl (Nat.le_of_ble_eq_true rfl) dX0_init_26 (fun H locs hP hD hS => ?_)
  have hP : va_P (dC, dI) vwCl [(a_t, .inr (0, [.int 0, .int 0, .int 0, .int 0, .int 0, .int 0]))] H := hP
  have hD : va_D A [(a_t, .inr (0, [.int 0, .int 0, .int 0, .int 0, .int 0, .int 0]))] := hD
  refine lv_aload_n hx hb dX0_init_29 rfl (lv_at hl 0 rfl) ?_
  refine lv_iconst (v := 0) hx hb dX0_init_30 (by decide) ?_
  refine va_put (D := (dC, dI)) (ci := 0) (v := .int 0) (ty := .int) (C := RX0) (T := TX0) (N := 6) hx hb hts iX0_init_X0 tyX0 tyX0_ok nmX0 hown hK hP hD hS 0 rfl rfl 5 (by decide) (hts _ (List.mem_of_getElem? (i := 9) rfl)) (fun _ h9 => h9) rfl (by decide +kernel) rfl rfl (Nat.le_of_ble_eq_true rfl) dX0_init_31 (fun H locs hP hD hS => ?_)
  have hP : va_P (dC, dI) vwCl [(a_t, .inr (0, [.int 0, .int 0, .int 0, .int 0, .int 0, .int 0]))] H := hP
  have hD : va_D A [(a_t, .inr (0, [.int 0, .int 0, .int 0, .int 0, .int 0, .int 0]))] := hD
  refine W.widen (k := 0) (n := 0) (Nat.le_of_ble_eq_true rfl) (Nat.le_of_ble_eq_true rfl) ?_
  simp only [Option.some.injEq, Prod.mk.injEq] at hm
  obtain ⟨rfl, rfl, rfl, rfl, rfl, rfl⟩ := hm
  exact mu_vretI () hx hb hr hP hD hS hK [0] rfl (by decide) dX0_init_34 hlocks
def mX1_init : Option (Int32 × (Nat → Int32)) :=
  some (0, (fun _ => 0))
abbrev rmX1_init : Room := { frames := 2, cells := 2, slots := 121, locals := 42 }
abbrev wX1_init (cA : ClassId) (a_t a_t_signs a_t_signs_cells : Nat) (v_t_length : Int32) (f_t_signs_cells : Nat → Int32) : va_W := [(a_t, .inr (1, [.ref a_t_signs, .int v_t_length])), (a_t_signs, .inr (2, [.ref a_t_signs_cells])), (a_t_signs_cells, .inl (cA, 120, .inl f_t_signs_cells))]
theorem iX1_init_X1 : ∀ w ∈ wsX10, w ∈ wsX1_init := (fun _ h => List.mem_cons_of_mem _ (List.mem_append_right _ h))
theorem iX1_init_X3 : ∀ w ∈ wsX30, w ∈ wsX1_init := (fun _ h => List.mem_cons_of_mem _ (List.mem_append_left _ (List.mem_append_right _ h)))
theorem hdX1_init : yX1_init.cls ≠ "java/lang/invoke/MethodHandle" ∧ yX1_init.cls ≠ "java/lang/invoke/VarHandle" ∧ (parseMethodDescriptor yX1_init.desc).map (fun d => d.parameters.length) = some 0 := by decide +kernel
set_option maxHeartbeats 4000000 in
set_option maxRecDepth 100000 in
theorem kX1_init (l : Launch) (dC : Nat → ClassId) (dI : Nat → Nat → Nat) (cA : ClassId) (a_t sz : Nat) (o_v_t_length : Int32) (o_f_t_signs_cells : Nat → Int32) (hm : mX1_init = some (o_v_t_length, o_f_t_signs_cells)) : Met l yX1_init wsX1_init rmX1_init (mpc (dC, dI) [(cA, .int)] [(a_t, .inr (1, [.null, .int 0]))] [.ref a_t] sz) (iB (S9 := Nat × Nat) (dC, dI) [(cA, .int)] (va_A [(a_t, .inr (1, [.null, .int 0]))] sz) (fun (a_t_signs, a_t_signs_cells) => (wX1_init cA a_t a_t_signs a_t_signs_cells o_v_t_length o_f_t_signs_cells))) 2 121 (va_A [(a_t, .inr (1, [.null, .int 0]))] sz) := by
  unfold mX1_init at hm
  refine mu_ofW (Qc := fun A => iB (S9 := Nat × Nat) (dC, dI) [(cA, .int)] A (fun (a_t_signs, a_t_signs_cells) => (wX1_init cA a_t a_t_signs a_t_signs_cells o_v_t_length o_f_t_signs_cells))) (cc := cX1_init) (maxL := 1) (ret := none) (own := RX1) (by decide) rfl rfl (Nat.le_of_ble_eq_true rfl) ?_
  intro p e s m args below meth c hx hb hr hts hown hlocks hml hin A hA hP hD hS hK ls hl
  have hin : meth.name = "<init>" := hin
  have hl : lv_has ls 1 [(0, .ref a_t)] := hl
  refine lv_aload_n hx hb dX1_init_0 rfl (lv_at hl 0 rfl) ?_
  refine W.objInit hx hb hown (hts _ (List.mem_of_getElem? (i := 1) rfl)) (hts _ (List.mem_of_getElem? (i := 2) rfl)) (hts _ (List.mem_of_getElem? (i := 3) rfl)) rfl (by rw [hml]; exact hl.1) rfl dX1_init_1 (Nat.le_of_ble_eq_true rfl) (Nat.le_of_ble_eq_true rfl) ?_
  refine W.eq (g2 := F0 m 4 ls []) rfl ?_
  refine lv_aload_n hx hb dX1_init_4 rfl (lv_at hl 0 rfl) ?_
  refine va_new (ci := 2) (fs := [.null]) (C := RX3) (T := TX3) (N := 1) hx hb hts iX1_init_X3 tyX3 tyX3_ok hown (hts _ (List.mem_of_getElem? (i := 4) rfl)) (hts _ (List.mem_of_getElem? (i := 5) rfl)) (hts _ (List.mem_of_getElem? (i := 6) rfl)) hK hP hD hS hA rfl (fun j hj => by rcases (show j = 0 by omega) with rfl <;> rfl) (Nat.le_of_ble_eq_true rfl) (Nat.le_of_ble_eq_true rfl) dX1_init_5 (fun a_t_signs H hP hD hS => ?_)
  have hP : va_P (dC, dI) vwCl [(a_t, .inr (1, [.null, .int 0])), (a_t_signs, .inr (2, [.null]))] H := hP
  have hD : va_D A [(a_t, .inr (1, [.null, .int 0])), (a_t_signs, .inr (2, [.null]))] := hD
  refine lv_dup hx hb dX1_init_8 rfl ?_
  refine lv_bipush (v := 120) hx hb dX1_init_9 (by decide) ?_
  refine mu_callI (wr := [(a_t, .inr (1, [.null, .int 0]))]) ⟨hx, hb, hml, hown, hts⟩ (kX3_init l dC dI cA a_t_signs 120 (by decide) _) (cwI 1 hts gX1_init_X3_init rfl rfl rfl (hts _ (List.mem_of_getElem? (i := 6) rfl)) (hts _ (List.mem_of_getElem? (i := 9) rfl)) (hts _ (List.mem_of_getElem? (i := 10) rfl)) rfl hdX3_init ⟨Nat.le_of_ble_eq_true rfl, Nat.le_of_ble_eq_true rfl⟩) hP hD hS hA hK [1] [0] rfl rfl rfl rfl (by decide +kernel) rfl hl.1 rfl (Nat.le_of_ble_eq_true rfl) dX1_init_11 ⟨Nat.le_of_ble_eq_true rfl, Nat.le_of_ble_eq_true rfl⟩ (fun u H locs hP hD hS => ?_)
  obtain ⟨a_t_signs_cells, rfl⟩ : ∃ z, z = u := ⟨_, rfl⟩
  have hP : va_P (dC, dI) vwCl [(a_t, .inr (1, [.null, .int 0])), (a_t_signs, .inr (2, [.ref a_t_signs_cells])), (a_t_signs_cells, .inl (cA, 120, .inl (fun _ => 0)))] H := hP
  have hD : va_D A [(a_t, .inr (1, [.null, .int 0])), (a_t_signs, .inr (2, [.ref a_t_signs_cells])), (a_t_signs_cells, .inl (cA, 120, .inl (fun _ => 0)))] := hD
  refine va_putF (D := (dC, dI)) (ci := 1) (v := .ref a_t_signs) (ty := .object "RoadNames$Row") (C := RX1) (T := TX1) (N := 2) hx hb hts iX1_init_X1 tyX1 tyX1_ok nmX1 hown hK hP hD hS 0 rfl rfl 0 (by decide) (hts _ (List.mem_of_getElem? (i := 7) rfl)) (fun _ h9 => h9) rfl hin rfl (by decide +kernel) rfl rfl (Nat.le_of_ble_eq_true rfl) dX1_init_14 (fun H locs hP hD hS => ?_)
  have hP : va_P (dC, dI) vwCl [(a_t, .inr (1, [.ref a_t_signs, .int 0])), (a_t_signs, .inr (2, [.ref a_t_signs_cells])), (a_t_signs_cells, .inl (cA, 120, .inl (fun _ => 0)))] H := hP
  have hD : va_D A [(a_t, .inr (1, [.ref a_t_signs, .int 0])), (a_t_signs, .inr (2, [.ref a_t_signs_cells])), (a_t_signs_cells, .inl (cA, 120, .inl (fun _ => 0)))] := hD
  refine lv_aload_n hx hb dX1_init_17 rfl (lv_at hl 0 rfl) ?_
  refine lv_iconst (v := 0) hx hb dX1_init_18 (by decide) ?_
  refine va_put (D := (dC, dI)) (ci := 1) (v := .int 0) (ty := .int) (C := RX1) (T := TX1) (N := 2) hx hb hts iX1_init_X1 tyX1 tyX1_ok nmX1 hown hK hP hD hS 0 rfl rfl 1 (by decide) (hts _ (List.mem_of_getElem? (i := 8) rfl)) (fun _ h9 => h9) rfl (by decide +kernel) rfl rfl (Nat.le_of_ble_eq_true rfl) dX1_init_19 (fun H locs hP hD hS => ?_)
  have hP : va_P (dC, dI) vwCl [(a_t, .inr (1, [.ref a_t_signs, .int 0])), (a_t_signs, .inr (2, [.ref a_t_signs_cells])), (a_t_signs_cells, .inl (cA, 120, .inl (fun _ => 0)))] H := hP
  have hD : va_D A [(a_t, .inr (1, [.ref a_t_signs, .int 0])), (a_t_signs, .inr (2, [.ref a_t_signs_cells])), (a_t_signs_cells, .inl (cA, 120, .inl (fun _ => 0)))] := hD
  refine W.widen (k := 2) (n := 121) (Nat.le_of_ble_eq_true rfl) (Nat.le_of_ble_eq_true rfl) ?_
  simp only [Option.some.injEq, Prod.mk.injEq] at hm
  obtain ⟨rfl, rfl⟩ := hm
  exact mu_vretI (a_t_signs, a_t_signs_cells) hx hb hr hP hD hS hK [0, 1, 2] rfl (by decide) dX1_init_22 hlocks
def mX4_init : Option (Int32 × Int32 × Int32 × Int32 × Int32 × Int32 × (Nat → Int32) × (Nat → Int32)) :=
  ((mX4_write (fun _ => 0) (fun _ => 0) 0 0 (-1)).bind fun (f_t_keys_cells_66, f_t_weights_cells_66) =>
  some (1, 3, 0, 0, 0, 0, f_t_keys_cells_66, f_t_weights_cells_66))
abbrev rmX4_init : Room := { frames := 2, cells := 4, slots := 388, locals := 45 }
abbrev wX4_init (cA : ClassId) (a_t a_t_keys a_t_weights a_t_keys_cells a_t_weights_cells : Nat) (v_t_houses v_t_limit v_t_movedIn v_t_evicted v_t_built v_t_tornDown : Int32) (f_t_keys_cells f_t_weights_cells : Nat → Int32) : va_W := [(a_t, .inr (3, [.ref a_t_keys, .ref a_t_weights, .int v_t_houses, .int v_t_limit, .int v_t_movedIn, .int v_t_evicted, .int v_t_built, .int v_t_tornDown])), (a_t_keys, .inr (2, [.ref a_t_keys_cells])), (a_t_keys_cells, .inl (cA, 193, .inl f_t_keys_cells)), (a_t_weights, .inr (2, [.ref a_t_weights_cells])), (a_t_weights_cells, .inl (cA, 193, .inl f_t_weights_cells))]
theorem iX4_init_X3 : ∀ w ∈ wsX30, w ∈ wsX4_init := (fun _ h => List.mem_cons_of_mem _ (List.mem_append_left _ (List.mem_append_right _ h)))
theorem iX4_init_X4 : ∀ w ∈ wsX40, w ∈ wsX4_init := (fun _ h => List.mem_cons_of_mem _ (List.mem_append_right _ h))
theorem hdX4_init : yX4_init.cls ≠ "java/lang/invoke/MethodHandle" ∧ yX4_init.cls ≠ "java/lang/invoke/VarHandle" ∧ (parseMethodDescriptor yX4_init.desc).map (fun d => d.parameters.length) = some 0 := by decide +kernel
set_option maxHeartbeats 4000000 in
set_option maxRecDepth 100000 in
theorem kX4_init (l : Launch) (dC : Nat → ClassId) (dI : Nat → Nat → Nat) (cA : ClassId) (a_t sz : Nat) (o_v_t_houses o_v_t_limit o_v_t_movedIn o_v_t_evicted o_v_t_built o_v_t_tornDown : Int32) (o_f_t_keys_cells o_f_t_weights_cells : Nat → Int32) (hm : mX4_init = some (o_v_t_houses, o_v_t_limit, o_v_t_movedIn, o_v_t_evicted, o_v_t_built, o_v_t_tornDown, o_f_t_keys_cells, o_f_t_weights_cells)) : Met l yX4_init wsX4_init rmX4_init (mpc (dC, dI) [(cA, .int)] [(a_t, .inr (3, [.null, .null, .int 0, .int 0, .int 0, .int 0, .int 0, .int 0]))] [.ref a_t] sz) (iB (S9 := Nat × Nat × Nat × Nat) (dC, dI) [(cA, .int)] (va_A [(a_t, .inr (3, [.null, .null, .int 0, .int 0, .int 0, .int 0, .int 0, .int 0]))] sz) (fun (a_t_keys, a_t_keys_cells, a_t_weights, a_t_weights_cells) => (wX4_init cA a_t a_t_keys a_t_weights a_t_keys_cells a_t_weights_cells o_v_t_houses o_v_t_limit o_v_t_movedIn o_v_t_evicted o_v_t_built o_v_t_tornDown o_f_t_keys_cells o_f_t_weights_cells))) 4 388 (va_A [(a_t, .inr (3, [.null, .null, .int 0, .int 0, .int 0, .int 0, .int 0, .int 0]))] sz) := by
  unfold mX4_init at hm
  refine mu_ofW (Qc := fun A => iB (S9 := Nat × Nat × Nat × Nat) (dC, dI) [(cA, .int)] A (fun (a_t_keys, a_t_keys_cells, a_t_weights, a_t_weights_cells) => (wX4_init cA a_t a_t_keys a_t_weights a_t_keys_cells a_t_weights_cells o_v_t_houses o_v_t_limit o_v_t_movedIn o_v_t_evicted o_v_t_built o_v_t_tornDown o_f_t_keys_cells o_f_t_weights_cells))) (cc := cX4_init) (maxL := 1) (ret := none) (own := RX4) (by decide) rfl rfl (Nat.le_of_ble_eq_true rfl) ?_
  intro p e s m args below meth c hx hb hr hts hown hlocks hml hin A hA hP hD hS hK ls hl
  have hin : meth.name = "<init>" := hin
  have hl : lv_has ls 1 [(0, .ref a_t)] := hl
  refine lv_aload_n hx hb dX4_init_0 rfl (lv_at hl 0 rfl) ?_
  refine W.objInit hx hb hown (hts _ (List.mem_of_getElem? (i := 1) rfl)) (hts _ (List.mem_of_getElem? (i := 2) rfl)) (hts _ (List.mem_of_getElem? (i := 3) rfl)) rfl (by rw [hml]; exact hl.1) rfl dX4_init_1 (Nat.le_of_ble_eq_true rfl) (Nat.le_of_ble_eq_true rfl) ?_
  refine W.eq (g2 := F0 m 4 ls []) rfl ?_
  refine lv_aload_n hx hb dX4_init_4 rfl (lv_at hl 0 rfl) ?_
  refine va_new (ci := 2) (fs := [.null]) (C := RX3) (T := TX3) (N := 1) hx hb hts iX4_init_X3 tyX3 tyX3_ok hown (hts _ (List.mem_of_getElem? (i := 4) rfl)) (hts _ (List.mem_of_getElem? (i := 5) rfl)) (hts _ (List.mem_of_getElem? (i := 6) rfl)) hK hP hD hS hA rfl (fun j hj => by rcases (show j = 0 by omega) with rfl <;> rfl) (Nat.le_of_ble_eq_true rfl) (Nat.le_of_ble_eq_true rfl) dX4_init_5 (fun a_t_keys H hP hD hS => ?_)
  have hP : va_P (dC, dI) vwCl [(a_t, .inr (3, [.null, .null, .int 0, .int 0, .int 0, .int 0, .int 0, .int 0])), (a_t_keys, .inr (2, [.null]))] H := hP
  have hD : va_D A [(a_t, .inr (3, [.null, .null, .int 0, .int 0, .int 0, .int 0, .int 0, .int 0])), (a_t_keys, .inr (2, [.null]))] := hD
  refine lv_dup hx hb dX4_init_8 rfl ?_
  refine lv_sipush (v := 193) hx hb dX4_init_9 (by decide) ?_
  refine mu_callI (wr := [(a_t, .inr (3, [.null, .null, .int 0, .int 0, .int 0, .int 0, .int 0, .int 0]))]) ⟨hx, hb, hml, hown, hts⟩ (kX3_init l dC dI cA a_t_keys 193 (by decide) _) (cwI 1 hts gX4_init_X3_init rfl rfl rfl (hts _ (List.mem_of_getElem? (i := 6) rfl)) (hts _ (List.mem_of_getElem? (i := 15) rfl)) (hts _ (List.mem_of_getElem? (i := 16) rfl)) rfl hdX3_init ⟨Nat.le_of_ble_eq_true rfl, Nat.le_of_ble_eq_true rfl⟩) hP hD hS hA hK [1] [0] rfl rfl rfl rfl (by decide +kernel) rfl hl.1 rfl (Nat.le_of_ble_eq_true rfl) dX4_init_12 ⟨Nat.le_of_ble_eq_true rfl, Nat.le_of_ble_eq_true rfl⟩ (fun u H locs hP hD hS => ?_)
  obtain ⟨a_t_keys_cells, rfl⟩ : ∃ z, z = u := ⟨_, rfl⟩
  have hP : va_P (dC, dI) vwCl [(a_t, .inr (3, [.null, .null, .int 0, .int 0, .int 0, .int 0, .int 0, .int 0])), (a_t_keys, .inr (2, [.ref a_t_keys_cells])), (a_t_keys_cells, .inl (cA, 193, .inl (fun _ => 0)))] H := hP
  have hD : va_D A [(a_t, .inr (3, [.null, .null, .int 0, .int 0, .int 0, .int 0, .int 0, .int 0])), (a_t_keys, .inr (2, [.ref a_t_keys_cells])), (a_t_keys_cells, .inl (cA, 193, .inl (fun _ => 0)))] := hD
  refine va_putF (D := (dC, dI)) (ci := 3) (v := .ref a_t_keys) (ty := .object "RoadNames$Row") (C := RX4) (T := TX4) (N := 8) hx hb hts iX4_init_X4 tyX4 tyX4_ok nmX4 hown hK hP hD hS 0 rfl rfl 0 (by decide) (hts _ (List.mem_of_getElem? (i := 7) rfl)) (fun _ h9 => h9) rfl hin rfl (by decide +kernel) rfl rfl (Nat.le_of_ble_eq_true rfl) dX4_init_15 (fun H locs hP hD hS => ?_)
  have hP : va_P (dC, dI) vwCl [(a_t, .inr (3, [.ref a_t_keys, .null, .int 0, .int 0, .int 0, .int 0, .int 0, .int 0])), (a_t_keys, .inr (2, [.ref a_t_keys_cells])), (a_t_keys_cells, .inl (cA, 193, .inl (fun _ => 0)))] H := hP
  have hD : va_D A [(a_t, .inr (3, [.ref a_t_keys, .null, .int 0, .int 0, .int 0, .int 0, .int 0, .int 0])), (a_t_keys, .inr (2, [.ref a_t_keys_cells])), (a_t_keys_cells, .inl (cA, 193, .inl (fun _ => 0)))] := hD
  refine lv_aload_n hx hb dX4_init_18 rfl (lv_at hl 0 rfl) ?_
  refine va_new (ci := 2) (fs := [.null]) (C := RX3) (T := TX3) (N := 1) hx hb hts iX4_init_X3 tyX3 tyX3_ok hown (hts _ (List.mem_of_getElem? (i := 4) rfl)) (hts _ (List.mem_of_getElem? (i := 5) rfl)) (hts _ (List.mem_of_getElem? (i := 6) rfl)) hK hP hD hS hA rfl (fun j hj => by rcases (show j = 0 by omega) with rfl <;> rfl) (Nat.le_of_ble_eq_true rfl) (Nat.le_of_ble_eq_true rfl) dX4_init_19 (fun a_t_weights H hP hD hS => ?_)
  have hP : va_P (dC, dI) vwCl [(a_t, .inr (3, [.ref a_t_keys, .null, .int 0, .int 0, .int 0, .int 0, .int 0, .int 0])), (a_t_keys, .inr (2, [.ref a_t_keys_cells])), (a_t_keys_cells, .inl (cA, 193, .inl (fun _ => 0))), (a_t_weights, .inr (2, [.null]))] H := hP
  have hD : va_D A [(a_t, .inr (3, [.ref a_t_keys, .null, .int 0, .int 0, .int 0, .int 0, .int 0, .int 0])), (a_t_keys, .inr (2, [.ref a_t_keys_cells])), (a_t_keys_cells, .inl (cA, 193, .inl (fun _ => 0))), (a_t_weights, .inr (2, [.null]))] := hD
  refine lv_dup hx hb dX4_init_22 rfl ?_
  refine lv_sipush (v := 193) hx hb dX4_init_23 (by decide) ?_
  refine mu_callI (wr := [(a_t, .inr (3, [.ref a_t_keys, .null, .int 0, .int 0, .int 0, .int 0, .int 0, .int 0])), (a_t_keys, .inr (2, [.ref a_t_keys_cells])), (a_t_keys_cells, .inl (cA, 193, .inl (fun _ => 0)))]) ⟨hx, hb, hml, hown, hts⟩ (kX3_init l dC dI cA a_t_weights 193 (by decide) _) (cwI 1 hts gX4_init_X3_init rfl rfl rfl (hts _ (List.mem_of_getElem? (i := 6) rfl)) (hts _ (List.mem_of_getElem? (i := 15) rfl)) (hts _ (List.mem_of_getElem? (i := 16) rfl)) rfl hdX3_init ⟨Nat.le_of_ble_eq_true rfl, Nat.le_of_ble_eq_true rfl⟩) hP hD hS hA hK [3] [0, 1, 2] rfl rfl rfl rfl (by decide +kernel) rfl hl.1 rfl (Nat.le_of_ble_eq_true rfl) dX4_init_26 ⟨Nat.le_of_ble_eq_true rfl, Nat.le_of_ble_eq_true rfl⟩ (fun u H locs hP hD hS => ?_)
  obtain ⟨a_t_weights_cells, rfl⟩ : ∃ z, z = u := ⟨_, rfl⟩
  have hP : va_P (dC, dI) vwCl [(a_t, .inr (3, [.ref a_t_keys, .null, .int 0, .int 0, .int 0, .int 0, .int 0, .int 0])), (a_t_keys, .inr (2, [.ref a_t_keys_cells])), (a_t_keys_cells, .inl (cA, 193, .inl (fun _ => 0))), (a_t_weights, .inr (2, [.ref a_t_weights_cells])), (a_t_weights_cells, .inl (cA, 193, .inl (fun _ => 0)))] H := hP
  have hD : va_D A [(a_t, .inr (3, [.ref a_t_keys, .null, .int 0, .int 0, .int 0, .int 0, .int 0, .int 0])), (a_t_keys, .inr (2, [.ref a_t_keys_cells])), (a_t_keys_cells, .inl (cA, 193, .inl (fun _ => 0))), (a_t_weights, .inr (2, [.ref a_t_weights_cells])), (a_t_weights_cells, .inl (cA, 193, .inl (fun _ => 0)))] := hD
  refine va_putF (D := (dC, dI)) (ci := 3) (v := .ref a_t_weights) (ty := .object "RoadNames$Row") (C := RX4) (T := TX4) (N := 8) hx hb hts iX4_init_X4 tyX4 tyX4_ok nmX4 hown hK hP hD hS 0 rfl rfl 1 (by decide) (hts _ (List.mem_of_getElem? (i := 8) rfl)) (fun _ h9 => h9) rfl hin rfl (by decide +kernel) rfl rfl (Nat.le_of_ble_eq_true rfl) dX4_init_29 (fun H locs hP hD hS => ?_)
  have hP : va_P (dC, dI) vwCl [(a_t, .inr (3, [.ref a_t_keys, .ref a_t_weights, .int 0, .int 0, .int 0, .int 0, .int 0, .int 0])), (a_t_keys, .inr (2, [.ref a_t_keys_cells])), (a_t_keys_cells, .inl (cA, 193, .inl (fun _ => 0))), (a_t_weights, .inr (2, [.ref a_t_weights_cells])), (a_t_weights_cells, .inl (cA, 193, .inl (fun _ => 0)))] H := hP
  have hD : va_D A [(a_t, .inr (3, [.ref a_t_keys, .ref a_t_weights, .int 0, .int 0, .int 0, .int 0, .int 0, .int 0])), (a_t_keys, .inr (2, [.ref a_t_keys_cells])), (a_t_keys_cells, .inl (cA, 193, .inl (fun _ => 0))), (a_t_weights, .inr (2, [.ref a_t_weights_cells])), (a_t_weights_cells, .inl (cA, 193, .inl (fun _ => 0)))] := hD
  refine lv_aload_n hx hb dX4_init_32 rfl (lv_at hl 0 rfl) ?_
  refine lv_iconst (v := 1) hx hb dX4_init_33 (by decide) ?_
  refine va_put (D := (dC, dI)) (ci := 3) (v := .int 1) (ty := .int) (C := RX4) (T := TX4) (N := 8) hx hb hts iX4_init_X4 tyX4 tyX4_ok nmX4 hown hK hP hD hS 0 rfl rfl 2 (by decide) (hts _ (List.mem_of_getElem? (i := 9) rfl)) (fun _ h9 => h9) rfl (by decide +kernel) rfl rfl (Nat.le_of_ble_eq_true rfl) dX4_init_34 (fun H locs hP hD hS => ?_)
  have hP : va_P (dC, dI) vwCl [(a_t, .inr (3, [.ref a_t_keys, .ref a_t_weights, .int 1, .int 0, .int 0, .int 0, .int 0, .int 0])), (a_t_keys, .inr (2, [.ref a_t_keys_cells])), (a_t_keys_cells, .inl (cA, 193, .inl (fun _ => 0))), (a_t_weights, .inr (2, [.ref a_t_weights_cells])), (a_t_weights_cells, .inl (cA, 193, .inl (fun _ => 0)))] H := hP
  have hD : va_D A [(a_t, .inr (3, [.ref a_t_keys, .ref a_t_weights, .int 1, .int 0, .int 0, .int 0, .int 0, .int 0])), (a_t_keys, .inr (2, [.ref a_t_keys_cells])), (a_t_keys_cells, .inl (cA, 193, .inl (fun _ => 0))), (a_t_weights, .inr (2, [.ref a_t_weights_cells])), (a_t_weights_cells, .inl (cA, 193, .inl (fun _ => 0)))] := hD
  refine lv_aload_n hx hb dX4_init_37 rfl (lv_at hl 0 rfl) ?_
  refine lv_iconst (v := 3) hx hb dX4_init_38 (by decide) ?_
  refine va_put (D := (dC, dI)) (ci := 3) (v := .int 3) (ty := .int) (C := RX4) (T := TX4) (N := 8) hx hb hts iX4_init_X4 tyX4 tyX4_ok nmX4 hown hK hP hD hS 0 rfl rfl 3 (by decide) (hts _ (List.mem_of_getElem? (i := 10) rfl)) (fun _ h9 => h9) rfl (by decide +kernel) rfl rfl (Nat.le_of_ble_eq_true rfl) dX4_init_39 (fun H locs hP hD hS => ?_)
  have hP : va_P (dC, dI) vwCl [(a_t, .inr (3, [.ref a_t_keys, .ref a_t_weights, .int 1, .int 3, .int 0, .int 0, .int 0, .int 0])), (a_t_keys, .inr (2, [.ref a_t_keys_cells])), (a_t_keys_cells, .inl (cA, 193, .inl (fun _ => 0))), (a_t_weights, .inr (2, [.ref a_t_weights_cells])), (a_t_weights_cells, .inl (cA, 193, .inl (fun _ => 0)))] H := hP
  have hD : va_D A [(a_t, .inr (3, [.ref a_t_keys, .ref a_t_weights, .int 1, .int 3, .int 0, .int 0, .int 0, .int 0])), (a_t_keys, .inr (2, [.ref a_t_keys_cells])), (a_t_keys_cells, .inl (cA, 193, .inl (fun _ => 0))), (a_t_weights, .inr (2, [.ref a_t_weights_cells])), (a_t_weights_cells, .inl (cA, 193, .inl (fun _ => 0)))] := hD
  refine lv_aload_n hx hb dX4_init_42 rfl (lv_at hl 0 rfl) ?_
  refine lv_iconst (v := 0) hx hb dX4_init_43 (by decide) ?_
  refine va_put (D := (dC, dI)) (ci := 3) (v := .int 0) (ty := .int) (C := RX4) (T := TX4) (N := 8) hx hb hts iX4_init_X4 tyX4 tyX4_ok nmX4 hown hK hP hD hS 0 rfl rfl 4 (by decide) (hts _ (List.mem_of_getElem? (i := 11) rfl)) (fun _ h9 => h9) rfl (by decide +kernel) rfl rfl (Nat.le_of_ble_eq_true rfl) dX4_init_44 (fun H locs hP hD hS => ?_)
  have hP : va_P (dC, dI) vwCl [(a_t, .inr (3, [.ref a_t_keys, .ref a_t_weights, .int 1, .int 3, .int 0, .int 0, .int 0, .int 0])), (a_t_keys, .inr (2, [.ref a_t_keys_cells])), (a_t_keys_cells, .inl (cA, 193, .inl (fun _ => 0))), (a_t_weights, .inr (2, [.ref a_t_weights_cells])), (a_t_weights_cells, .inl (cA, 193, .inl (fun _ => 0)))] H := hP
  have hD : va_D A [(a_t, .inr (3, [.ref a_t_keys, .ref a_t_weights, .int 1, .int 3, .int 0, .int 0, .int 0, .int 0])), (a_t_keys, .inr (2, [.ref a_t_keys_cells])), (a_t_keys_cells, .inl (cA, 193, .inl (fun _ => 0))), (a_t_weights, .inr (2, [.ref a_t_weights_cells])), (a_t_weights_cells, .inl (cA, 193, .inl (fun _ => 0)))] := hD
  refine lv_aload_n hx hb dX4_init_47 rfl (lv_at hl 0 rfl) ?_
  refine lv_iconst (v := 0) hx hb dX4_init_48 (by decide) ?_
  refine va_put (D := (dC, dI)) (ci := 3) (v := .int 0) (ty := .int) (C := RX4) (T := TX4) (N := 8) hx hb hts iX4_init_X4 tyX4 tyX4_ok nmX4 hown hK hP hD hS 0 rfl rfl 5 (by decide) (hts _ (List.mem_of_getElem? (i := 12) rfl)) (fun _ h9 => h9) rfl (by decide +kernel) rfl rfl (Nat.le_of_ble_eq_true rfl) dX4_init_49 (fun H locs hP hD hS => ?_)
  have hP : va_P (dC, dI) vwCl [(a_t, .inr (3, [.ref a_t_keys, .ref a_t_weights, .int 1, .int 3, .int 0, .int 0, .int 0, .int 0])), (a_t_keys, .inr (2, [.ref a_t_keys_cells])), (a_t_keys_cells, .inl (cA, 193, .inl (fun _ => 0))), (a_t_weights, .inr (2, [.ref a_t_weights_cells])), (a_t_weights_cells, .inl (cA, 193, .inl (fun _ => 0)))] H := hP
  have hD : va_D A [(a_t, .inr (3, [.ref a_t_keys, .ref a_t_weights, .int 1, .int 3, .int 0, .int 0, .int 0, .int 0])), (a_t_keys, .inr (2, [.ref a_t_keys_cells])), (a_t_keys_cells, .inl (cA, 193, .inl (fun _ => 0))), (a_t_weights, .inr (2, [.ref a_t_weights_cells])), (a_t_weights_cells, .inl (cA, 193, .inl (fun _ => 0)))] := hD
  refine lv_aload_n hx hb dX4_init_52 rfl (lv_at hl 0 rfl) ?_
  refine lv_iconst (v := 0) hx hb dX4_init_53 (by decide) ?_
  refine va_put (D := (dC, dI)) (ci := 3) (v := .int 0) (ty := .int) (C := RX4) (T := TX4) (N := 8) hx hb hts iX4_init_X4 tyX4 tyX4_ok nmX4 hown hK hP hD hS 0 rfl rfl 6 (by decide) (hts _ (List.mem_of_getElem? (i := 13) rfl)) (fun _ h9 => h9) rfl (by decide +kernel) rfl rfl (Nat.le_of_ble_eq_true rfl) dX4_init_54 (fun H locs hP hD hS => ?_)
  have hP : va_P (dC, dI) vwCl [(a_t, .inr (3, [.ref a_t_keys, .ref a_t_weights, .int 1, .int 3, .int 0, .int 0, .int 0, .int 0])), (a_t_keys, .inr (2, [.ref a_t_keys_cells])), (a_t_keys_cells, .inl (cA, 193, .inl (fun _ => 0))), (a_t_weights, .inr (2, [.ref a_t_weights_cells])), (a_t_weights_cells, .inl (cA, 193, .inl (fun _ => 0)))] H := hP
  have hD : va_D A [(a_t, .inr (3, [.ref a_t_keys, .ref a_t_weights, .int 1, .int 3, .int 0, .int 0, .int 0, .int 0])), (a_t_keys, .inr (2, [.ref a_t_keys_cells])), (a_t_keys_cells, .inl (cA, 193, .inl (fun _ => 0))), (a_t_weights, .inr (2, [.ref a_t_weights_cells])), (a_t_weights_cells, .inl (cA, 193, .inl (fun _ => 0)))] := hD
  refine lv_aload_n hx hb dX4_init_57 rfl (lv_at hl 0 rfl) ?_
  refine lv_iconst (v := 0) hx hb dX4_init_58 (by decide) ?_
  refine va_put (D := (dC, dI)) (ci := 3) (v := .int 0) (ty := .int) (C := RX4) (T := TX4) (N := 8) hx hb hts iX4_init_X4 tyX4 tyX4_ok nmX4 hown hK hP hD hS 0 rfl rfl 7 (by decide) (hts _ (List.mem_of_getElem? (i := 14) rfl)) (fun _ h9 => h9) rfl (by decide +kernel) rfl rfl (Nat.le_of_ble_eq_true rfl) dX4_init_59 (fun H locs hP hD hS => ?_)
  have hP : va_P (dC, dI) vwCl [(a_t, .inr (3, [.ref a_t_keys, .ref a_t_weights, .int 1, .int 3, .int 0, .int 0, .int 0, .int 0])), (a_t_keys, .inr (2, [.ref a_t_keys_cells])), (a_t_keys_cells, .inl (cA, 193, .inl (fun _ => 0))), (a_t_weights, .inr (2, [.ref a_t_weights_cells])), (a_t_weights_cells, .inl (cA, 193, .inl (fun _ => 0)))] H := hP
  have hD : va_D A [(a_t, .inr (3, [.ref a_t_keys, .ref a_t_weights, .int 1, .int 3, .int 0, .int 0, .int 0, .int 0])), (a_t_keys, .inr (2, [.ref a_t_keys_cells])), (a_t_keys_cells, .inl (cA, 193, .inl (fun _ => 0))), (a_t_weights, .inr (2, [.ref a_t_weights_cells])), (a_t_weights_cells, .inl (cA, 193, .inl (fun _ => 0)))] := hD
  refine lv_aload_n hx hb dX4_init_62 rfl (lv_at hl 0 rfl) ?_
  refine lv_iconst (v := 0) hx hb dX4_init_63 (by decide) ?_
  refine lv_iconst (v := 0) hx hb dX4_init_64 (by decide) ?_
  refine lv_iconst (v := (-1)) hx hb dX4_init_65 (by decide) ?_
  obtain ⟨⟨f_t_keys_cells_66, f_t_weights_cells_66⟩, e66, hm⟩ := bs hm
  try dsimp only at hm
  refine mu_callVv (wr := []) ⟨hx, hb, hml, hown, hts⟩ (kX4_write l dC dI cA a_t a_t_keys a_t_weights a_t_keys_cells a_t_weights_cells 1 3 0 0 0 0 (fun _ => 0) (fun _ => 0) 0 0 (-1) _ f_t_keys_cells_66 f_t_weights_cells_66 e66) (cwV 3 hts gX4_init_X4_write rfl rfl rfl hdX4_write ⟨Nat.le_of_ble_eq_true rfl, Nat.le_of_ble_eq_true rfl⟩) hP hD hS hA hK [0, 1, 2, 3, 4] [] rfl rfl rfl rfl (by decide) rfl rfl rfl hl.1 rfl (Nat.le_of_ble_eq_true rfl) dX4_init_66 ⟨Nat.le_of_ble_eq_true rfl, Nat.le_of_ble_eq_true rfl⟩ (fun H locs hP hD hS => ?_)
  have hP : va_P (dC, dI) vwCl [(a_t, .inr (3, [.ref a_t_keys, .ref a_t_weights, .int 1, .int 3, .int 0, .int 0, .int 0, .int 0])), (a_t_keys, .inr (2, [.ref a_t_keys_cells])), (a_t_keys_cells, .inl (cA, 193, .inl f_t_keys_cells_66)), (a_t_weights, .inr (2, [.ref a_t_weights_cells])), (a_t_weights_cells, .inl (cA, 193, .inl f_t_weights_cells_66))] H := hP
  have hD : va_D A [(a_t, .inr (3, [.ref a_t_keys, .ref a_t_weights, .int 1, .int 3, .int 0, .int 0, .int 0, .int 0])), (a_t_keys, .inr (2, [.ref a_t_keys_cells])), (a_t_keys_cells, .inl (cA, 193, .inl f_t_keys_cells_66)), (a_t_weights, .inr (2, [.ref a_t_weights_cells])), (a_t_weights_cells, .inl (cA, 193, .inl f_t_weights_cells_66))] := hD
  refine W.widen (k := 4) (n := 388) (Nat.le_of_ble_eq_true rfl) (Nat.le_of_ble_eq_true rfl) ?_
  simp only [Option.some.injEq, Prod.mk.injEq] at hm
  obtain ⟨rfl, rfl, rfl, rfl, rfl, rfl, rfl, rfl⟩ := hm
  exact mu_vretI (a_t_keys, a_t_keys_cells, a_t_weights, a_t_weights_cells) hx hb hr hP hD hS hK [0, 1, 2, 3, 4] rfl (by decide) dX4_init_69 hlocks
