def mX8_init : Option (Int32 × Int32 × Int32 × Int32 × Int32 × Int32 × Int32 × Int32 × (Nat → Int32) × (Nat → Int32) × (Nat → Int32) × (Nat → Int32)) :=
  some (0, 0, 0, 0, 0, 0, 0, 0, (upd (upd (fun _ => 0) 0 3) 2 1), (fun _ => 0), (fun _ => 0), (fun _ => 0))
abbrev rmX8_init : Room := { frames := 1, cells := 4, slots := 1650, locals := 12 }
abbrev wX8_init (cA : ClassId) (a_t a_t_state a_t_kept a_t_stack a_t_text : Nat) (v_t_thrown v_t_saved v_t_textLength v_t_place v_t_sign v_t_readLetters v_t_readLength v_t_readNumber : Int32) (f_t_state f_t_kept f_t_stack f_t_text : Nat → Int32) : va_W := [(a_t, .inr (7, [.int v_t_thrown, .ref a_t_state, .ref a_t_kept, .ref a_t_stack, .int v_t_saved, .ref a_t_text, .int v_t_textLength, .int v_t_place, .int v_t_sign, .int v_t_readLetters, .int v_t_readLength, .int v_t_readNumber])), (a_t_state, .inl (cA, 255, .inl f_t_state)), (a_t_kept, .inl (cA, 255, .inl f_t_kept)), (a_t_stack, .inl (cA, 1020, .inl f_t_stack)), (a_t_text, .inl (cA, 120, .inl f_t_text))]
theorem iX8_init_X8 : ∀ w ∈ wsX80, w ∈ wsX8_init := (fun _ h => List.mem_cons_of_mem _ (List.mem_append_right _ h))
theorem hdX8_init : yX8_init.cls ≠ "java/lang/invoke/MethodHandle" ∧ yX8_init.cls ≠ "java/lang/invoke/VarHandle" ∧ (parseMethodDescriptor yX8_init.desc).map (fun d => d.parameters.length) = some 0 := by decide +kernel
set_option maxHeartbeats 4000000 in
set_option maxRecDepth 100000 in
theorem kX8_init (l : Launch) (dC : Nat → ClassId) (dI : Nat → Nat → Nat) (cA : ClassId) (a_t sz : Nat) (o_v_t_thrown o_v_t_saved o_v_t_textLength o_v_t_place o_v_t_sign o_v_t_readLetters o_v_t_readLength o_v_t_readNumber : Int32) (o_f_t_state o_f_t_kept o_f_t_stack o_f_t_text : Nat → Int32) (hm : mX8_init = some (o_v_t_thrown, o_v_t_saved, o_v_t_textLength, o_v_t_place, o_v_t_sign, o_v_t_readLetters, o_v_t_readLength, o_v_t_readNumber, o_f_t_state, o_f_t_kept, o_f_t_stack, o_f_t_text)) : Met l yX8_init wsX8_init rmX8_init (mpc (dC, dI) [(cA, .int)] [(a_t, .inr (7, [.int 0, .null, .null, .null, .int 0, .null, .int 0, .int 0, .int 0, .int 0, .int 0, .int 0]))] [.ref a_t] sz) (iB (S9 := Nat × Nat × Nat × Nat) (dC, dI) [(cA, .int)] (va_A [(a_t, .inr (7, [.int 0, .null, .null, .null, .int 0, .null, .int 0, .int 0, .int 0, .int 0, .int 0, .int 0]))] sz) (fun (a_t_state, a_t_kept, a_t_stack, a_t_text) => (wX8_init cA a_t a_t_state a_t_kept a_t_stack a_t_text o_v_t_thrown o_v_t_saved o_v_t_textLength o_v_t_place o_v_t_sign o_v_t_readLetters o_v_t_readLength o_v_t_readNumber o_f_t_state o_f_t_kept o_f_t_stack o_f_t_text))) 4 1650 (va_A [(a_t, .inr (7, [.int 0, .null, .null, .null, .int 0, .null, .int 0, .int 0, .int 0, .int 0, .int 0, .int 0]))] sz) := by
  unfold mX8_init at hm
  refine mu_ofW (Qc := fun A => iB (S9 := Nat × Nat × Nat × Nat) (dC, dI) [(cA, .int)] A (fun (a_t_state, a_t_kept, a_t_stack, a_t_text) => (wX8_init cA a_t a_t_state a_t_kept a_t_stack a_t_text o_v_t_thrown o_v_t_saved o_v_t_textLength o_v_t_place o_v_t_sign o_v_t_readLetters o_v_t_readLength o_v_t_readNumber o_f_t_state o_f_t_kept o_f_t_stack o_f_t_text))) (cc := cX8_init) (maxL := 1) (ret := none) (own := RX8) (by decide) rfl rfl (Nat.le_of_ble_eq_true rfl) ?_
  intro p e s m args below meth c hx hb hr hts hown hlocks hml hin A hA hP hD hS hK ls hl
  have hin : meth.name = "<init>" := hin
  have hl : lv_has ls 1 [(0, .ref a_t)] := hl
  refine lv_aload_n hx hb dX8_init_0 rfl (lv_at hl 0 rfl) ?_
  refine W.objInit hx hb hown (hts _ (List.mem_of_getElem? (i := 1) rfl)) (hts _ (List.mem_of_getElem? (i := 2) rfl)) (hts _ (List.mem_of_getElem? (i := 3) rfl)) rfl (by rw [hml]; exact hl.1) rfl dX8_init_1 (Nat.le_of_ble_eq_true rfl) (Nat.le_of_ble_eq_true rfl) ?_
  refine W.eq (g2 := F0 m 4 ls []) rfl ?_
  refine lv_aload_n hx hb dX8_init_4 rfl (lv_at hl 0 rfl) ?_
  refine lv_sipush (v := 255) hx hb dX8_init_5 (by decide) ?_
  refine va_newa (atype := .int) (N' := 255) (a0 := (255, .inl (fun _ => 0))) hx hb (hts _ (List.mem_of_getElem? (i := 4) rfl)) rfl hK hP hD hS hA (fun _ => rfl) (by decide) (by decide) (by decide) (Nat.le_of_ble_eq_true rfl) (Nat.le_of_ble_eq_true rfl) dX8_init_8 (fun a_t_state c9 H hK9 hP hD hS => ?_)
  obtain rfl : cA = c9 := (cA_eq hK9 0 rfl).symm
  clear hK9
  have hP : va_P (dC, dI) vwCl [(a_t, .inr (7, [.int 0, .null, .null, .null, .int 0, .null, .int 0, .int 0, .int 0, .int 0, .int 0, .int 0])), (a_t_state, .inl (cA, 255, .inl (fun _ => 0)))] H := hP
  have hD : va_D A [(a_t, .inr (7, [.int 0, .null, .null, .null, .int 0, .null, .int 0, .int 0, .int 0, .int 0, .int 0, .int 0])), (a_t_state, .inl (cA, 255, .inl (fun _ => 0)))] := hD
  refine va_putF (D := (dC, dI)) (ci := 7) (v := .ref a_t_state) (ty := .array .int) (C := RX8) (T := TX8) (N := 12) hx hb hts iX8_init_X8 tyX8 tyX8_ok nmX8 hown hK hP hD hS 0 rfl rfl 1 (by decide) (hts _ (List.mem_of_getElem? (i := 5) rfl)) (fun _ h9 => h9) rfl hin rfl (by decide +kernel) rfl rfl (Nat.le_of_ble_eq_true rfl) dX8_init_10 (fun H locs hP hD hS => ?_)
  have hP : va_P (dC, dI) vwCl [(a_t, .inr (7, [.int 0, .ref a_t_state, .null, .null, .int 0, .null, .int 0, .int 0, .int 0, .int 0, .int 0, .int 0])), (a_t_state, .inl (cA, 255, .inl (fun _ => 0)))] H := hP
  have hD : va_D A [(a_t, .inr (7, [.int 0, .ref a_t_state, .null, .null, .int 0, .null, .int 0, .int 0, .int 0, .int 0, .int 0, .int 0])), (a_t_state, .inl (cA, 255, .inl (fun _ => 0)))] := hD
  refine lv_aload_n hx hb dX8_init_13 rfl (lv_at hl 0 rfl) ?_
  refine lv_sipush (v := 255) hx hb dX8_init_14 (by decide) ?_
  refine va_newa (atype := .int) (N' := 255) (a0 := (255, .inl (fun _ => 0))) hx hb (hts _ (List.mem_of_getElem? (i := 4) rfl)) rfl hK hP hD hS hA (fun _ => rfl) (by decide) (by decide) (by decide) (Nat.le_of_ble_eq_true rfl) (Nat.le_of_ble_eq_true rfl) dX8_init_17 (fun a_t_kept c9 H hK9 hP hD hS => ?_)
  obtain rfl : cA = c9 := (cA_eq hK9 0 rfl).symm
  clear hK9
  have hP : va_P (dC, dI) vwCl [(a_t, .inr (7, [.int 0, .ref a_t_state, .null, .null, .int 0, .null, .int 0, .int 0, .int 0, .int 0, .int 0, .int 0])), (a_t_state, .inl (cA, 255, .inl (fun _ => 0))), (a_t_kept, .inl (cA, 255, .inl (fun _ => 0)))] H := hP
  have hD : va_D A [(a_t, .inr (7, [.int 0, .ref a_t_state, .null, .null, .int 0, .null, .int 0, .int 0, .int 0, .int 0, .int 0, .int 0])), (a_t_state, .inl (cA, 255, .inl (fun _ => 0))), (a_t_kept, .inl (cA, 255, .inl (fun _ => 0)))] := hD
  refine va_putF (D := (dC, dI)) (ci := 7) (v := .ref a_t_kept) (ty := .array .int) (C := RX8) (T := TX8) (N := 12) hx hb hts iX8_init_X8 tyX8 tyX8_ok nmX8 hown hK hP hD hS 0 rfl rfl 2 (by decide) (hts _ (List.mem_of_getElem? (i := 6) rfl)) (fun _ h9 => h9) rfl hin rfl (by decide +kernel) rfl rfl (Nat.le_of_ble_eq_true rfl) dX8_init_19 (fun H locs hP hD hS => ?_)
  have hP : va_P (dC, dI) vwCl [(a_t, .inr (7, [.int 0, .ref a_t_state, .ref a_t_kept, .null, .int 0, .null, .int 0, .int 0, .int 0, .int 0, .int 0, .int 0])), (a_t_state, .inl (cA, 255, .inl (fun _ => 0))), (a_t_kept, .inl (cA, 255, .inl (fun _ => 0)))] H := hP
  have hD : va_D A [(a_t, .inr (7, [.int 0, .ref a_t_state, .ref a_t_kept, .null, .int 0, .null, .int 0, .int 0, .int 0, .int 0, .int 0, .int 0])), (a_t_state, .inl (cA, 255, .inl (fun _ => 0))), (a_t_kept, .inl (cA, 255, .inl (fun _ => 0)))] := hD
  refine lv_aload_n hx hb dX8_init_22 rfl (lv_at hl 0 rfl) ?_
  refine lv_sipush (v := 1020) hx hb dX8_init_23 (by decide) ?_
  refine va_newa (atype := .int) (N' := 1020) (a0 := (1020, .inl (fun _ => 0))) hx hb (hts _ (List.mem_of_getElem? (i := 4) rfl)) rfl hK hP hD hS hA (fun _ => rfl) (by decide) (by decide) (by decide) (Nat.le_of_ble_eq_true rfl) (Nat.le_of_ble_eq_true rfl) dX8_init_26 (fun a_t_stack c9 H hK9 hP hD hS => ?_)
  obtain rfl : cA = c9 := (cA_eq hK9 0 rfl).symm
  clear hK9
  have hP : va_P (dC, dI) vwCl [(a_t, .inr (7, [.int 0, .ref a_t_state, .ref a_t_kept, .null, .int 0, .null, .int 0, .int 0, .int 0, .int 0, .int 0, .int 0])), (a_t_state, .inl (cA, 255, .inl (fun _ => 0))), (a_t_kept, .inl (cA, 255, .inl (fun _ => 0))), (a_t_stack, .inl (cA, 1020, .inl (fun _ => 0)))] H := hP
  have hD : va_D A [(a_t, .inr (7, [.int 0, .ref a_t_state, .ref a_t_kept, .null, .int 0, .null, .int 0, .int 0, .int 0, .int 0, .int 0, .int 0])), (a_t_state, .inl (cA, 255, .inl (fun _ => 0))), (a_t_kept, .inl (cA, 255, .inl (fun _ => 0))), (a_t_stack, .inl (cA, 1020, .inl (fun _ => 0)))] := hD
  refine va_putF (D := (dC, dI)) (ci := 7) (v := .ref a_t_stack) (ty := .array .int) (C := RX8) (T := TX8) (N := 12) hx hb hts iX8_init_X8 tyX8 tyX8_ok nmX8 hown hK hP hD hS 0 rfl rfl 3 (by decide) (hts _ (List.mem_of_getElem? (i := 7) rfl)) (fun _ h9 => h9) rfl hin rfl (by decide +kernel) rfl rfl (Nat.le_of_ble_eq_true rfl) dX8_init_28 (fun H locs hP hD hS => ?_)
  have hP : va_P (dC, dI) vwCl [(a_t, .inr (7, [.int 0, .ref a_t_state, .ref a_t_kept, .ref a_t_stack, .int 0, .null, .int 0, .int 0, .int 0, .int 0, .int 0, .int 0])), (a_t_state, .inl (cA, 255, .inl (fun _ => 0))), (a_t_kept, .inl (cA, 255, .inl (fun _ => 0))), (a_t_stack, .inl (cA, 1020, .inl (fun _ => 0)))] H := hP
  have hD : va_D A [(a_t, .inr (7, [.int 0, .ref a_t_state, .ref a_t_kept, .ref a_t_stack, .int 0, .null, .int 0, .int 0, .int 0, .int 0, .int 0, .int 0])), (a_t_state, .inl (cA, 255, .inl (fun _ => 0))), (a_t_kept, .inl (cA, 255, .inl (fun _ => 0))), (a_t_stack, .inl (cA, 1020, .inl (fun _ => 0)))] := hD
  refine lv_aload_n hx hb dX8_init_31 rfl (lv_at hl 0 rfl) ?_
  refine lv_bipush (v := 120) hx hb dX8_init_32 (by decide) ?_
  refine va_newa (atype := .int) (N' := 120) (a0 := (120, .inl (fun _ => 0))) hx hb (hts _ (List.mem_of_getElem? (i := 4) rfl)) rfl hK hP hD hS hA (fun _ => rfl) (by decide) (by decide) (by decide) (Nat.le_of_ble_eq_true rfl) (Nat.le_of_ble_eq_true rfl) dX8_init_34 (fun a_t_text c9 H hK9 hP hD hS => ?_)
  obtain rfl : cA = c9 := (cA_eq hK9 0 rfl).symm
  clear hK9
  have hP : va_P (dC, dI) vwCl [(a_t, .inr (7, [.int 0, .ref a_t_state, .ref a_t_kept, .ref a_t_stack, .int 0, .null, .int 0, .int 0, .int 0, .int 0, .int 0, .int 0])), (a_t_state, .inl (cA, 255, .inl (fun _ => 0))), (a_t_kept, .inl (cA, 255, .inl (fun _ => 0))), (a_t_stack, .inl (cA, 1020, .inl (fun _ => 0))), (a_t_text, .inl (cA, 120, .inl (fun _ => 0)))] H := hP
  have hD : va_D A [(a_t, .inr (7, [.int 0, .ref a_t_state, .ref a_t_kept, .ref a_t_stack, .int 0, .null, .int 0, .int 0, .int 0, .int 0, .int 0, .int 0])), (a_t_state, .inl (cA, 255, .inl (fun _ => 0))), (a_t_kept, .inl (cA, 255, .inl (fun _ => 0))), (a_t_stack, .inl (cA, 1020, .inl (fun _ => 0))), (a_t_text, .inl (cA, 120, .inl (fun _ => 0)))] := hD
  refine va_putF (D := (dC, dI)) (ci := 7) (v := .ref a_t_text) (ty := .array .int) (C := RX8) (T := TX8) (N := 12) hx hb hts iX8_init_X8 tyX8 tyX8_ok nmX8 hown hK hP hD hS 0 rfl rfl 5 (by decide) (hts _ (List.mem_of_getElem? (i := 8) rfl)) (fun _ h9 => h9) rfl hin rfl (by decide +kernel) rfl rfl (Nat.le_of_ble_eq_true rfl) dX8_init_36 (fun H locs hP hD hS => ?_)
  have hP : va_P (dC, dI) vwCl [(a_t, .inr (7, [.int 0, .ref a_t_state, .ref a_t_kept, .ref a_t_stack, .int 0, .ref a_t_text, .int 0, .int 0, .int 0, .int 0, .int 0, .int 0])), (a_t_state, .inl (cA, 255, .inl (fun _ => 0))), (a_t_kept, .inl (cA, 255, .inl (fun _ => 0))), (a_t_stack, .inl (cA, 1020, .inl (fun _ => 0))), (a_t_text, .inl (cA, 120, .inl (fun _ => 0)))] H := hP
  have hD : va_D A [(a_t, .inr (7, [.int 0, .ref a_t_state, .ref a_t_kept, .ref a_t_stack, .int 0, .ref a_t_text, .int 0, .int 0, .int 0, .int 0, .int 0, .int 0])), (a_t_state, .inl (cA, 255, .inl (fun _ => 0))), (a_t_kept, .inl (cA, 255, .inl (fun _ => 0))), (a_t_stack, .inl (cA, 1020, .inl (fun _ => 0))), (a_t_text, .inl (cA, 120, .inl (fun _ => 0)))] := hD
  refine lv_aload_n hx hb dX8_init_39 rfl (lv_at hl 0 rfl) ?_
  refine va_get (D := (dC, dI)) (ci := 7) (C := RX8) (T := TX8) (N := 12) hx hb hts iX8_init_X8 hown hK hP 0 rfl rfl 1 (by decide) (hts _ (List.mem_of_getElem? (i := 5) rfl)) (fun _ h9 => h9) rfl dX8_init_40 ?_
  refine lv_iconst (v := 0) hx hb dX8_init_43 (by decide) ?_
  refine lv_iconst (v := 3) hx hb dX8_init_44 (by decide) ?_
  refine xa_stK hx hb hK hP hD hS 1 0 rfl rfl 0 rfl (by decide) (by decide) dX8_init_45 (fun H locs hP hD hS => ?_)
  have hP : va_P (dC, dI) vwCl [(a_t, .inr (7, [.int 0, .ref a_t_state, .ref a_t_kept, .ref a_t_stack, .int 0, .ref a_t_text, .int 0, .int 0, .int 0, .int 0, .int 0, .int 0])), (a_t_state, .inl (cA, 255, .inl (upd (fun _ => 0) 0 3))), (a_t_kept, .inl (cA, 255, .inl (fun _ => 0))), (a_t_stack, .inl (cA, 1020, .inl (fun _ => 0))), (a_t_text, .inl (cA, 120, .inl (fun _ => 0)))] H := hP
  have hD : va_D A [(a_t, .inr (7, [.int 0, .ref a_t_state, .ref a_t_kept, .ref a_t_stack, .int 0, .ref a_t_text, .int 0, .int 0, .int 0, .int 0, .int 0, .int 0])), (a_t_state, .inl (cA, 255, .inl (upd (fun _ => 0) 0 3))), (a_t_kept, .inl (cA, 255, .inl (fun _ => 0))), (a_t_stack, .inl (cA, 1020, .inl (fun _ => 0))), (a_t_text, .inl (cA, 120, .inl (fun _ => 0)))] := hD
  refine lv_aload_n hx hb dX8_init_46 rfl (lv_at hl 0 rfl) ?_
  refine va_get (D := (dC, dI)) (ci := 7) (C := RX8) (T := TX8) (N := 12) hx hb hts iX8_init_X8 hown hK hP 0 rfl rfl 1 (by decide) (hts _ (List.mem_of_getElem? (i := 5) rfl)) (fun _ h9 => h9) rfl dX8_init_47 ?_
  refine lv_iconst (v := 2) hx hb dX8_init_50 (by decide) ?_
  refine lv_iconst (v := 1) hx hb dX8_init_51 (by decide) ?_
  refine xa_stK hx hb hK hP hD hS 1 0 rfl rfl 2 rfl (by decide) (by decide) dX8_init_52 (fun H locs hP hD hS => ?_)
  have hP : va_P (dC, dI) vwCl [(a_t, .inr (7, [.int 0, .ref a_t_state, .ref a_t_kept, .ref a_t_stack, .int 0, .ref a_t_text, .int 0, .int 0, .int 0, .int 0, .int 0, .int 0])), (a_t_state, .inl (cA, 255, .inl (upd (upd (fun _ => 0) 0 3) 2 1))), (a_t_kept, .inl (cA, 255, .inl (fun _ => 0))), (a_t_stack, .inl (cA, 1020, .inl (fun _ => 0))), (a_t_text, .inl (cA, 120, .inl (fun _ => 0)))] H := hP
  have hD : va_D A [(a_t, .inr (7, [.int 0, .ref a_t_state, .ref a_t_kept, .ref a_t_stack, .int 0, .ref a_t_text, .int 0, .int 0, .int 0, .int 0, .int 0, .int 0])), (a_t_state, .inl (cA, 255, .inl (upd (upd (fun _ => 0) 0 3) 2 1))), (a_t_kept, .inl (cA, 255, .inl (fun _ => 0))), (a_t_stack, .inl (cA, 1020, .inl (fun _ => 0))), (a_t_text, .inl (cA, 120, .inl (fun _ => 0)))] := hD
  refine W.widen (k := 4) (n := 1650) (Nat.le_of_ble_eq_true rfl) (Nat.le_of_ble_eq_true rfl) ?_
  simp only [Option.some.injEq, Prod.mk.injEq] at hm
  obtain ⟨rfl, rfl, rfl, rfl, rfl, rfl, rfl, rfl, rfl, rfl, rfl, rfl⟩ := hm
  exact mu_vretI (a_t_state, a_t_kept, a_t_stack, a_t_text) hx hb hr hP hD hS hK [0, 1, 2, 3, 4] rfl (by decide) dX8_init_53 hlocks
