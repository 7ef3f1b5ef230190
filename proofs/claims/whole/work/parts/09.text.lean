def mX0_restart  : Option (Int32) :=
  some 0
abbrev rmX0_restart : Room := { frames := 0, cells := 0, slots := 0, locals := 0 }
abbrev wX0_restart (cA : ClassId) (a_t : Nat) (v_t_inCommand v_t_kind v_t_letters v_t_length v_t_number v_t_digits : Int32) : va_W := [(a_t, .inr (0, [.int v_t_inCommand, .int v_t_kind, .int v_t_letters, .int v_t_length, .int v_t_number, .int v_t_digits]))]
theorem iX0_restart_X0 : ∀ w ∈ wsX00, w ∈ wsX0_restart := (fun _ h => List.mem_cons_of_mem _ (List.mem_append_right _ h))
theorem hdX0_restart : yX0_restart.cls = RX0 ∧ yX0_restart.cls ≠ "java/lang/invoke/MethodHandle" ∧ yX0_restart.cls ≠ "java/lang/invoke/VarHandle" ∧ (parseMethodDescriptor yX0_restart.desc).map (fun d => d.parameters.length) = some 0 := by decide +kernel
set_option maxHeartbeats 4000000 in
set_option maxRecDepth 100000 in
theorem kX0_restart (l : Launch) (dC : Nat → ClassId) (dI : Nat → Nat → Nat) (cA : ClassId) (a_t : Nat) (v_t_inCommand v_t_kind v_t_letters v_t_length v_t_number v_t_digits : Int32) (sz : Nat) (o_v_t_inCommand : Int32) (hm : mX0_restart = some o_v_t_inCommand) : Met l yX0_restart wsX0_restart rmX0_restart (mpc (dC, dI) [(cA, .int)] (wX0_restart cA a_t v_t_inCommand v_t_kind v_t_letters v_t_length v_t_number v_t_digits) [.ref a_t] sz) (mqv (dC, dI) [(cA, .int)] (va_A (wX0_restart cA a_t v_t_inCommand v_t_kind v_t_letters v_t_length v_t_number v_t_digits) sz) (wX0_restart cA a_t o_v_t_inCommand v_t_kind v_t_letters v_t_length v_t_number v_t_digits)) 0 0 (va_A (wX0_restart cA a_t v_t_inCommand v_t_kind v_t_letters v_t_length v_t_number v_t_digits) sz) := by
  unfold mX0_restart at hm
  refine mu_ofW (Qc := fun A => mqv (dC, dI) [(cA, .int)] A (wX0_restart cA a_t o_v_t_inCommand v_t_kind v_t_letters v_t_length v_t_number v_t_digits)) (cc := cX0_restart) (maxL := 1) (ret := none) (own := RX0) (by decide) rfl rfl (Nat.le_of_ble_eq_true rfl) ?_
  intro p e s m args below meth c hx hb hr hts hown hlocks hml hin A hA hP hD hS hK ls hl
  have hl : lv_has ls 1 [(0, .ref a_t)] := hl
  have hP : va_P (dC, dI) vwCl [(a_t, .inr (0, [.int v_t_inCommand, .int v_t_kind, .int v_t_letters, .int v_t_length, .int v_t_number, .int v_t_digits]))] s.heap := hP
  have hD : va_D A [(a_t, .inr (0, [.int v_t_inCommand, .int v_t_kind, .int v_t_letters, .int v_t_length, .int v_t_number, .int v_t_digits]))] := hD
  refine lv_aload_n hx hb dX0_restart_0 rfl (lv_at hl 0 rfl) ?_
  refine lv_iconst (v := 0) hx hb dX0_restart_1 (by decide) ?_
  refine va_put (D := (dC, dI)) (ci := 0) (C := RX0) (T := TX0) (N := 6) (ty := .boolean) hx hb hts iX0_restart_X0 tyX0 tyX0_ok nmX0 hown hK hP hD hS 0 rfl rfl 0 (by decide) (hts _ (List.mem_of_getElem? (i := 1) rfl)) (fun _ h9 => h9) rfl (by decide +kernel) rfl rfl (Nat.le_of_ble_eq_true rfl) dX0_restart_2 (fun H locs hP hD hS => ?_)
  have hP : va_P (dC, dI) vwCl [(a_t, .inr (0, [.int 0, .int v_t_kind, .int v_t_letters, .int v_t_length, .int v_t_number, .int v_t_digits]))] H := hP
  have hD : va_D A [(a_t, .inr (0, [.int 0, .int v_t_kind, .int v_t_letters, .int v_t_length, .int v_t_number, .int v_t_digits]))] := hD
  cases hm
  exact mu_vret hx hb hr hP hD hS hK [0] rfl (by decide) dX0_restart_5 hlocks
def mX0_isBetweenCommands (v_t_inCommand : Int32) : Int32 :=
  (if v_t_inCommand = 0 then (1 : Int32) else 0)
abbrev rmX0_isBetweenCommands : Room := { frames := 0, cells := 0, slots := 0, locals := 0 }
abbrev wX0_isBetweenCommands (cA : ClassId) (a_t : Nat) (v_t_inCommand v_t_kind v_t_letters v_t_length v_t_number v_t_digits : Int32) : va_W := [(a_t, .inr (0, [.int v_t_inCommand, .int v_t_kind, .int v_t_letters, .int v_t_length, .int v_t_number, .int v_t_digits]))]
theorem iX0_isBetweenCommands_X0 : ∀ w ∈ wsX00, w ∈ wsX0_isBetweenCommands := (fun _ h => List.mem_cons_of_mem _ (List.mem_append_right _ h))
theorem hdX0_isBetweenCommands : yX0_isBetweenCommands.cls = RX0 ∧ yX0_isBetweenCommands.cls ≠ "java/lang/invoke/MethodHandle" ∧ yX0_isBetweenCommands.cls ≠ "java/lang/invoke/VarHandle" ∧ (parseMethodDescriptor yX0_isBetweenCommands.desc).map (fun d => d.parameters.length) = some 0 := by decide +kernel
set_option maxHeartbeats 4000000 in
set_option maxRecDepth 100000 in
theorem kX0_isBetweenCommands (l : Launch) (dC : Nat → ClassId) (dI : Nat → Nat → Nat) (cA : ClassId) (a_t : Nat) (v_t_inCommand v_t_kind v_t_letters v_t_length v_t_number v_t_digits : Int32) : Met l yX0_isBetweenCommands wsX0_isBetweenCommands rmX0_isBetweenCommands (rpc (dC, dI) [(cA, .int)] (wX0_isBetweenCommands cA a_t v_t_inCommand v_t_kind v_t_letters v_t_length v_t_number v_t_digits) [.ref a_t]) (vp_Si (fun x => x = (mX0_isBetweenCommands v_t_inCommand) ∧ nbr (mX0_isBetweenCommands v_t_inCommand))) 0 0 (fun _ => False) := by
  obtain ⟨r, hm⟩ : ∃ r, mX0_isBetweenCommands v_t_inCommand = r := ⟨_, rfl⟩
  rw [hm]
  unfold mX0_isBetweenCommands at hm
  refine ro_ofW (cc := cX0_isBetweenCommands) (maxL := 1) (ret := (some .boolean)) (own := RX0) (by decide) rfl rfl (Nat.le_of_ble_eq_true rfl) ?_
  intro p e s m args below meth c hx hb hr hts hown hlocks hml hP hK ls hl
  have hl : lv_has ls 1 [(0, .ref a_t)] := hl
  have hP : va_P (dC, dI) vwCl [(a_t, .inr (0, [.int v_t_inCommand, .int v_t_kind, .int v_t_letters, .int v_t_length, .int v_t_number, .int v_t_digits]))] s.heap := hP
  refine lv_aload_n hx hb dX0_isBetweenCommands_0 rfl (lv_at hl 0 rfl) ?_
  refine va_get (D := (dC, dI)) (ci := 0) (C := RX0) (T := TX0) (N := 6) hx hb hts iX0_isBetweenCommands_X0 hown hK hP 0 rfl rfl 0 (by decide) (hts _ (List.mem_of_getElem? (i := 1) rfl)) (fun _ h9 => h9) rfl dX0_isBetweenCommands_1 ?_
  refine lv_if_ne (tgt := 11) hx hb dX0_isBetweenCommands_4 (by decide) (fun c4 => ?_) (fun c4 => ?_)
  · try simp only [if_neg c4] at hm
    refine lv_iconst (v := 0) hx hb dX0_isBetweenCommands_11 (by decide) ?_
    subst hm
    exact ro_iret hx hb hr rfl ⟨rfl, rfl⟩ dX0_isBetweenCommands_12 hlocks
  · try simp only [if_pos c4] at hm
    refine lv_iconst (v := 1) hx hb dX0_isBetweenCommands_7 (by decide) ?_
    refine lv_goto (tgt := 12) hx hb dX0_isBetweenCommands_8 (by decide) ?_
    subst hm
    exact ro_iret hx hb hr rfl ⟨rfl, rfl⟩ dX0_isBetweenCommands_12 hlocks
def mX0_kind (v_t_kind : Int32) : Int32 :=
  v_t_kind
abbrev rmX0_kind : Room := { frames := 0, cells := 0, slots := 0, locals := 0 }
abbrev wX0_kind (cA : ClassId) (a_t : Nat) (v_t_inCommand v_t_kind v_t_letters v_t_length v_t_number v_t_digits : Int32) : va_W := [(a_t, .inr (0, [.int v_t_inCommand, .int v_t_kind, .int v_t_letters, .int v_t_length, .int v_t_number, .int v_t_digits]))]
theorem iX0_kind_X0 : ∀ w ∈ wsX00, w ∈ wsX0_kind := (fun _ h => List.mem_cons_of_mem _ (List.mem_append_right _ h))
theorem hdX0_kind : yX0_kind.cls = RX0 ∧ yX0_kind.cls ≠ "java/lang/invoke/MethodHandle" ∧ yX0_kind.cls ≠ "java/lang/invoke/VarHandle" ∧ (parseMethodDescriptor yX0_kind.desc).map (fun d => d.parameters.length) = some 0 := by decide +kernel
set_option maxHeartbeats 4000000 in
set_option maxRecDepth 100000 in
theorem kX0_kind (l : Launch) (dC : Nat → ClassId) (dI : Nat → Nat → Nat) (cA : ClassId) (a_t : Nat) (v_t_inCommand v_t_kind v_t_letters v_t_length v_t_number v_t_digits : Int32) : Met l yX0_kind wsX0_kind rmX0_kind (rpc (dC, dI) [(cA, .int)] (wX0_kind cA a_t v_t_inCommand v_t_kind v_t_letters v_t_length v_t_number v_t_digits) [.ref a_t]) (vp_Si (fun x => x = (mX0_kind v_t_kind))) 0 0 (fun _ => False) := by
  obtain ⟨r, hm⟩ : ∃ r, mX0_kind v_t_kind = r := ⟨_, rfl⟩
  rw [hm]
  unfold mX0_kind at hm
  refine ro_ofW (cc := cX0_kind) (maxL := 1) (ret := (some .int)) (own := RX0) (by decide) rfl rfl (Nat.le_of_ble_eq_true rfl) ?_
  intro p e s m args below meth c hx hb hr hts hown hlocks hml hP hK ls hl
  have hl : lv_has ls 1 [(0, .ref a_t)] := hl
  have hP : va_P (dC, dI) vwCl [(a_t, .inr (0, [.int v_t_inCommand, .int v_t_kind, .int v_t_letters, .int v_t_length, .int v_t_number, .int v_t_digits]))] s.heap := hP
  refine lv_aload_n hx hb dX0_kind_0 rfl (lv_at hl 0 rfl) ?_
  refine va_get (D := (dC, dI)) (ci := 0) (C := RX0) (T := TX0) (N := 6) hx hb hts iX0_kind_X0 hown hK hP 0 rfl rfl 1 (by decide) (hts _ (List.mem_of_getElem? (i := 1) rfl)) (fun _ h9 => h9) rfl dX0_kind_1 ?_
  subst hm
  exact ro_iret hx hb hr rfl rfl dX0_kind_4 hlocks
def mX0_key (v_t_letters : Int32) (v_t_length : Int32) : Int32 :=
  (mX2_of v_t_letters v_t_length)
abbrev rmX0_key : Room := { frames := 2, cells := 0, slots := 0, locals := 41 }
abbrev wX0_key (cA : ClassId) (a_t : Nat) (v_t_inCommand v_t_kind v_t_letters v_t_length v_t_number v_t_digits : Int32) : va_W := [(a_t, .inr (0, [.int v_t_inCommand, .int v_t_kind, .int v_t_letters, .int v_t_length, .int v_t_number, .int v_t_digits]))]
theorem iX0_key_X0 : ∀ w ∈ wsX00, w ∈ wsX0_key := (fun _ h => List.mem_cons_of_mem _ (List.mem_append_right _ h))
theorem hdX0_key : yX0_key.cls = RX0 ∧ yX0_key.cls ≠ "java/lang/invoke/MethodHandle" ∧ yX0_key.cls ≠ "java/lang/invoke/VarHandle" ∧ (parseMethodDescriptor yX0_key.desc).map (fun d => d.parameters.length) = some 0 := by decide +kernel
set_option maxHeartbeats 4000000 in
set_option maxRecDepth 100000 in
theorem kX0_key (l : Launch) (dC : Nat → ClassId) (dI : Nat → Nat → Nat) (cA : ClassId) (a_t : Nat) (v_t_inCommand v_t_kind v_t_letters v_t_length v_t_number v_t_digits : Int32) : Met l yX0_key wsX0_key rmX0_key (rpc (dC, dI) [(cA, .int)] (wX0_key cA a_t v_t_inCommand v_t_kind v_t_letters v_t_length v_t_number v_t_digits) [.ref a_t]) (vp_Si (fun x => x = (mX0_key v_t_letters v_t_length))) 0 0 (fun _ => False) := by
  obtain ⟨r, hm⟩ : ∃ r, mX0_key v_t_letters v_t_length = r := ⟨_, rfl⟩
  rw [hm]
  unfold mX0_key at hm
  refine ro_ofW (cc := cX0_key) (maxL := 1) (ret := (some .int)) (own := RX0) (by decide) rfl rfl (Nat.le_of_ble_eq_true rfl) ?_
  intro p e s m args below meth c hx hb hr hts hown hlocks hml hP hK ls hl
  have hl : lv_has ls 1 [(0, .ref a_t)] := hl
  have hP : va_P (dC, dI) vwCl [(a_t, .inr (0, [.int v_t_inCommand, .int v_t_kind, .int v_t_letters, .int v_t_length, .int v_t_number, .int v_t_digits]))] s.heap := hP
  refine lv_aload_n hx hb dX0_key_0 rfl (lv_at hl 0 rfl) ?_
  refine va_get (D := (dC, dI)) (ci := 0) (C := RX0) (T := TX0) (N := 6) hx hb hts iX0_key_X0 hown hK hP 0 rfl rfl 2 (by decide) (hts _ (List.mem_of_getElem? (i := 1) rfl)) (fun _ h9 => h9) rfl dX0_key_1 ?_
  refine lv_aload_n hx hb dX0_key_4 rfl (lv_at hl 0 rfl) ?_
  refine va_get (D := (dC, dI)) (ci := 0) (C := RX0) (T := TX0) (N := 6) hx hb hts iX0_key_X0 hown hK hP 0 rfl rfl 3 (by decide) (hts _ (List.mem_of_getElem? (i := 2) rfl)) (fun _ h9 => h9) rfl dX0_key_5 ?_
  refine sp_callSe ⟨hx, hb, hml, hown, hts⟩ (kX2_of l v_t_letters v_t_length) (va_cwS 2 hts gX0_key_X2_of rfl rfl rfl hdX2_of.2 ⟨Nat.le_of_ble_eq_true rfl, Nat.le_of_ble_eq_true rfl⟩) rfl hl.1 rfl (Nat.le_of_ble_eq_true rfl) dX0_key_8 ⟨Nat.zero_le _, Nat.zero_le _⟩ ?_
  subst hm
  exact ro_iret hx hb hr rfl rfl dX0_key_11 hlocks
def mX0_number (v_t_number : Int32) : Int32 :=
  v_t_number
abbrev rmX0_number : Room := { frames := 0, cells := 0, slots := 0, locals := 0 }
abbrev wX0_number (cA : ClassId) (a_t : Nat) (v_t_inCommand v_t_kind v_t_letters v_t_length v_t_number v_t_digits : Int32) : va_W := [(a_t, .inr (0, [.int v_t_inCommand, .int v_t_kind, .int v_t_letters, .int v_t_length, .int v_t_number, .int v_t_digits]))]
theorem iX0_number_X0 : ∀ w ∈ wsX00, w ∈ wsX0_number := (fun _ h => List.mem_cons_of_mem _ (List.mem_append_right _ h))
theorem hdX0_number : yX0_number.cls = RX0 ∧ yX0_number.cls ≠ "java/lang/invoke/MethodHandle" ∧ yX0_number.cls ≠ "java/lang/invoke/VarHandle" ∧ (parseMethodDescriptor yX0_number.desc).map (fun d => d.parameters.length) = some 0 := by decide +kernel
set_option maxHeartbeats 4000000 in
set_option maxRecDepth 100000 in
theorem kX0_number (l : Launch) (dC : Nat → ClassId) (dI : Nat → Nat → Nat) (cA : ClassId) (a_t : Nat) (v_t_inCommand v_t_kind v_t_letters v_t_length v_t_number v_t_digits : Int32) : Met l yX0_number wsX0_number rmX0_number (rpc (dC, dI) [(cA, .int)] (wX0_number cA a_t v_t_inCommand v_t_kind v_t_letters v_t_length v_t_number v_t_digits) [.ref a_t]) (vp_Si (fun x => x = (mX0_number v_t_number))) 0 0 (fun _ => False) := by
  obtain ⟨r, hm⟩ : ∃ r, mX0_number v_t_number = r := ⟨_, rfl⟩
  rw [hm]
  unfold mX0_number at hm
  refine ro_ofW (cc := cX0_number) (maxL := 1) (ret := (some .int)) (own := RX0) (by decide) rfl rfl (Nat.le_of_ble_eq_true rfl) ?_
  intro p e s m args below meth c hx hb hr hts hown hlocks hml hP hK ls hl
  have hl : lv_has ls 1 [(0, .ref a_t)] := hl
  have hP : va_P (dC, dI) vwCl [(a_t, .inr (0, [.int v_t_inCommand, .int v_t_kind, .int v_t_letters, .int v_t_length, .int v_t_number, .int v_t_digits]))] s.heap := hP
  refine lv_aload_n hx hb dX0_number_0 rfl (lv_at hl 0 rfl) ?_
  refine va_get (D := (dC, dI)) (ci := 0) (C := RX0) (T := TX0) (N := 6) hx hb hts iX0_number_X0 hown hK hP 0 rfl rfl 4 (by decide) (hts _ (List.mem_of_getElem? (i := 1) rfl)) (fun _ h9 => h9) rfl dX0_number_1 ?_
  subst hm
  exact ro_iret hx hb hr rfl rfl dX0_number_4 hlocks
def mX0_hasName (v_t_kind : Int32) : Int32 :=
  (if v_t_kind = 43 then 1 else (if v_t_kind = 45 then 1 else (if v_t_kind = 60 then 1 else (if v_t_kind = 62 then (1 : Int32) else 0))))
abbrev rmX0_hasName : Room := { frames := 0, cells := 0, slots := 0, locals := 0 }
abbrev wX0_hasName (cA : ClassId) (a_t : Nat) (v_t_inCommand v_t_kind v_t_letters v_t_length v_t_number v_t_digits : Int32) : va_W := [(a_t, .inr (0, [.int v_t_inCommand, .int v_t_kind, .int v_t_letters, .int v_t_length, .int v_t_number, .int v_t_digits]))]
theorem iX0_hasName_X0 : ∀ w ∈ wsX00, w ∈ wsX0_hasName := (fun _ h => List.mem_cons_of_mem _ (List.mem_append_right _ h))
theorem hdX0_hasName : yX0_hasName.cls = RX0 ∧ yX0_hasName.cls ≠ "java/lang/invoke/MethodHandle" ∧ yX0_hasName.cls ≠ "java/lang/invoke/VarHandle" ∧ (parseMethodDescriptor yX0_hasName.desc).map (fun d => d.parameters.length) = some 0 := by decide +kernel
set_option maxHeartbeats 4000000 in
set_option maxRecDepth 100000 in
theorem kX0_hasName (l : Launch) (dC : Nat → ClassId) (dI : Nat → Nat → Nat) (cA : ClassId) (a_t : Nat) (v_t_inCommand v_t_kind v_t_letters v_t_length v_t_number v_t_digits : Int32) : Met l yX0_hasName wsX0_hasName rmX0_hasName (rpc (dC, dI) [(cA, .int)] (wX0_hasName cA a_t v_t_inCommand v_t_kind v_t_letters v_t_length v_t_number v_t_digits) [.ref a_t]) (vp_Si (fun x => x = (mX0_hasName v_t_kind) ∧ nbr (mX0_hasName v_t_kind))) 0 0 (fun _ => False) := by
  obtain ⟨r, hm⟩ : ∃ r, mX0_hasName v_t_kind = r := ⟨_, rfl⟩
  rw [hm]
  unfold mX0_hasName at hm
  refine ro_ofW (cc := cX0_hasName) (maxL := 1) (ret := (some .boolean)) (own := RX0) (by decide) rfl rfl (Nat.le_of_ble_eq_true rfl) ?_
  intro p e s m args below meth c hx hb hr hts hown hlocks hml hP hK ls hl
  have hl : lv_has ls 1 [(0, .ref a_t)] := hl
  have hP : va_P (dC, dI) vwCl [(a_t, .inr (0, [.int v_t_inCommand, .int v_t_kind, .int v_t_letters, .int v_t_length, .int v_t_number, .int v_t_digits]))] s.heap := hP
  refine lv_aload_n hx hb dX0_hasName_0 rfl (lv_at hl 0 rfl) ?_
  refine va_get (D := (dC, dI)) (ci := 0) (C := RX0) (T := TX0) (N := 6) hx hb hts iX0_hasName_X0 hown hK hP 0 rfl rfl 1 (by decide) (hts _ (List.mem_of_getElem? (i := 1) rfl)) (fun _ h9 => h9) rfl dX0_hasName_1 ?_
  refine lv_bipush (v := 43) hx hb dX0_hasName_4 (by decide) ?_
  refine lv_icmp_eq (tgt := 36) hx hb dX0_hasName_6 (by decide) (fun c6 => ?_) (fun c6 => ?_)
  · try simp only [if_pos c6] at hm
    refine lv_iconst (v := 1) hx hb dX0_hasName_36 (by decide) ?_
    refine lv_goto (tgt := 41) hx hb dX0_hasName_37 (by decide) ?_
    subst hm
    exact ro_iret hx hb hr rfl ⟨rfl, rfl⟩ dX0_hasName_41 hlocks
  · try simp only [if_neg c6] at hm
    refine lv_aload_n hx hb dX0_hasName_9 rfl (lv_at hl 0 rfl) ?_
    refine va_get (D := (dC, dI)) (ci := 0) (C := RX0) (T := TX0) (N := 6) hx hb hts iX0_hasName_X0 hown hK hP 0 rfl rfl 1 (by decide) (hts _ (List.mem_of_getElem? (i := 1) rfl)) (fun _ h9 => h9) rfl dX0_hasName_10 ?_
    refine lv_bipush (v := 45) hx hb dX0_hasName_13 (by decide) ?_
    refine lv_icmp_eq (tgt := 36) hx hb dX0_hasName_15 (by decide) (fun c15 => ?_) (fun c15 => ?_)
    · try simp only [if_pos c15] at hm
      refine lv_iconst (v := 1) hx hb dX0_hasName_36 (by decide) ?_
      refine lv_goto (tgt := 41) hx hb dX0_hasName_37 (by decide) ?_
      subst hm
      exact ro_iret hx hb hr rfl ⟨rfl, rfl⟩ dX0_hasName_41 hlocks
    · try simp only [if_neg c15] at hm
      refine lv_aload_n hx hb dX0_hasName_18 rfl (lv_at hl 0 rfl) ?_
      refine va_get (D := (dC, dI)) (ci := 0) (C := RX0) (T := TX0) (N := 6) hx hb hts iX0_hasName_X0 hown hK hP 0 rfl rfl 1 (by decide) (hts _ (List.mem_of_getElem? (i := 1) rfl)) (fun _ h9 => h9) rfl dX0_hasName_19 ?_
      refine lv_bipush (v := 60) hx hb dX0_hasName_22 (by decide) ?_
      refine lv_icmp_eq (tgt := 36) hx hb dX0_hasName_24 (by decide) (fun c24 => ?_) (fun c24 => ?_)
      · try simp only [if_pos c24] at hm
        refine lv_iconst (v := 1) hx hb dX0_hasName_36 (by decide) ?_
        refine lv_goto (tgt := 41) hx hb dX0_hasName_37 (by decide) ?_
        subst hm
        exact ro_iret hx hb hr rfl ⟨rfl, rfl⟩ dX0_hasName_41 hlocks
      · try simp only [if_neg c24] at hm
        refine lv_aload_n hx hb dX0_hasName_27 rfl (lv_at hl 0 rfl) ?_
        refine va_get (D := (dC, dI)) (ci := 0) (C := RX0) (T := TX0) (N := 6) hx hb hts iX0_hasName_X0 hown hK hP 0 rfl rfl 1 (by decide) (hts _ (List.mem_of_getElem? (i := 1) rfl)) (fun _ h9 => h9) rfl dX0_hasName_28 ?_
        refine lv_bipush (v := 62) hx hb dX0_hasName_31 (by decide) ?_
        refine lv_icmp_ne (tgt := 40) hx hb dX0_hasName_33 (by decide) (fun c33 => ?_) (fun c33 => ?_)
        · try simp only [if_neg c33] at hm
          refine lv_iconst (v := 0) hx hb dX0_hasName_40 (by decide) ?_
          subst hm
          exact ro_iret hx hb hr rfl ⟨rfl, rfl⟩ dX0_hasName_41 hlocks
        · try simp only [if_pos c33] at hm
          refine lv_iconst (v := 1) hx hb dX0_hasName_36 (by decide) ?_
          refine lv_goto (tgt := 41) hx hb dX0_hasName_37 (by decide) ?_
          subst hm
          exact ro_iret hx hb hr rfl ⟨rfl, rfl⟩ dX0_hasName_41 hlocks
def mX0_begin (p1 : Int32) : Option (Int32 × Int32 × Int32 × Int32 × Int32 × Int32 × Int32) :=
  some ((if (mX0_hasName p1) = 0 then (if p1 = 61 then 1 else (if p1 = 42 then (1 : Int32) else 0)) else 1), (if (mX0_hasName p1) = 0 then (if p1 = 61 then 1 else (if p1 = 42 then (1 : Int32) else 0)) else 1), p1, 0, 0, 0, 0)
abbrev rmX0_begin : Room := { frames := 1, cells := 0, slots := 0, locals := 20 }
abbrev wX0_begin (cA : ClassId) (a_t : Nat) (v_t_inCommand v_t_kind v_t_letters v_t_length v_t_number v_t_digits : Int32) : va_W := [(a_t, .inr (0, [.int v_t_inCommand, .int v_t_kind, .int v_t_letters, .int v_t_length, .int v_t_number, .int v_t_digits]))]
theorem iX0_begin_X0 : ∀ w ∈ wsX00, w ∈ wsX0_begin := (fun _ h => List.mem_cons_of_mem _ (List.mem_append_right _ h))
theorem hdX0_begin : yX0_begin.cls = RX0 ∧ yX0_begin.cls ≠ "java/lang/invoke/MethodHandle" ∧ yX0_begin.cls ≠ "java/lang/invoke/VarHandle" ∧ (parseMethodDescriptor yX0_begin.desc).map (fun d => d.parameters.length) = some 1 := by decide +kernel
set_option maxHeartbeats 4000000 in
set_option maxRecDepth 100000 in
theorem kX0_begin (l : Launch) (dC : Nat → ClassId) (dI : Nat → Nat → Nat) (cA : ClassId) (a_t : Nat) (v_t_inCommand v_t_kind v_t_letters v_t_length v_t_number v_t_digits p1 : Int32) (sz : Nat) (r o_v_t_inCommand o_v_t_kind o_v_t_letters o_v_t_length o_v_t_number o_v_t_digits : Int32) (hm : (mX0_begin p1) = some (r, o_v_t_inCommand, o_v_t_kind, o_v_t_letters, o_v_t_length, o_v_t_number, o_v_t_digits)) : Met l yX0_begin wsX0_begin rmX0_begin (mpc (dC, dI) [(cA, .int)] (wX0_begin cA a_t v_t_inCommand v_t_kind v_t_letters v_t_length v_t_number v_t_digits) [.ref a_t, .int p1] sz) (mqi (dC, dI) [(cA, .int)] (va_A (wX0_begin cA a_t v_t_inCommand v_t_kind v_t_letters v_t_length v_t_number v_t_digits) sz) (wX0_begin cA a_t o_v_t_inCommand o_v_t_kind o_v_t_letters o_v_t_length o_v_t_number o_v_t_digits) (fun x => x = r ∧ nbr r)) 0 0 (va_A (wX0_begin cA a_t v_t_inCommand v_t_kind v_t_letters v_t_length v_t_number v_t_digits) sz) := by
  unfold mX0_begin at hm
  refine mu_ofW (Qc := fun A => mqi (dC, dI) [(cA, .int)] A (wX0_begin cA a_t o_v_t_inCommand o_v_t_kind o_v_t_letters o_v_t_length o_v_t_number o_v_t_digits) (fun x => x = r ∧ nbr r)) (cc := cX0_begin) (maxL := 2) (ret := (some .boolean)) (own := RX0) (by decide) rfl rfl (Nat.le_of_ble_eq_true rfl) ?_
  intro p e s m args below meth c hx hb hr hts hown hlocks hml hin A hA hP hD hS hK ls hl
  have hl : lv_has ls 2 [(0, .ref a_t), (1, .int p1)] := hl
  have hP : va_P (dC, dI) vwCl [(a_t, .inr (0, [.int v_t_inCommand, .int v_t_kind, .int v_t_letters, .int v_t_length, .int v_t_number, .int v_t_digits]))] s.heap := hP
  have hD : va_D A [(a_t, .inr (0, [.int v_t_inCommand, .int v_t_kind, .int v_t_letters, .int v_t_length, .int v_t_number, .int v_t_digits]))] := hD
  refine lv_aload_n hx hb dX0_begin_0 rfl (lv_at hl 0 rfl) ?_
  refine lv_iload_n hx hb dX0_begin_1 rfl (lv_at hl 1 rfl) ?_
  refine va_put (D := (dC, dI)) (ci := 0) (C := RX0) (T := TX0) (N := 6) (ty := .int) hx hb hts iX0_begin_X0 tyX0 tyX0_ok nmX0 hown hK hP hD hS 0 rfl rfl 1 (by decide) (hts _ (List.mem_of_getElem? (i := 1) rfl)) (fun _ h9 => h9) rfl (by decide +kernel) rfl rfl (Nat.le_of_ble_eq_true rfl) dX0_begin_2 (fun H locs hP hD hS => ?_)
  have hP : va_P (dC, dI) vwCl [(a_t, .inr (0, [.int v_t_inCommand, .int p1, .int v_t_letters, .int v_t_length, .int v_t_number, .int v_t_digits]))] H := hP
  have hD : va_D A [(a_t, .inr (0, [.int v_t_inCommand, .int p1, .int v_t_letters, .int v_t_length, .int v_t_number, .int v_t_digits]))] := hD
  refine lv_aload_n hx hb dX0_begin_5 rfl (lv_at hl 0 rfl) ?_
  refine lv_iconst (v := 0) hx hb dX0_begin_6 (by decide) ?_
  refine va_put (D := (dC, dI)) (ci := 0) (C := RX0) (T := TX0) (N := 6) (ty := .int) hx hb hts iX0_begin_X0 tyX0 tyX0_ok nmX0 hown hK hP hD hS 0 rfl rfl 2 (by decide) (hts _ (List.mem_of_getElem? (i := 2) rfl)) (fun _ h9 => h9) rfl (by decide +kernel) rfl rfl (Nat.le_of_ble_eq_true rfl) dX0_begin_7 (fun H locs hP hD hS => ?_)
  have hP : va_P (dC, dI) vwCl [(a_t, .inr (0, [.int v_t_inCommand, .int p1, .int 0, .int v_t_length, .int v_t_number, .int v_t_digits]))] H := hP
  have hD : va_D A [(a_t, .inr (0, [.int v_t_inCommand, .int p1, .int 0, .int v_t_length, .int v_t_number, .int v_t_digits]))] := hD
  refine lv_aload_n hx hb dX0_begin_10 rfl (lv_at hl 0 rfl) ?_
  refine lv_iconst (v := 0) hx hb dX0_begin_11 (by decide) ?_
  refine va_put (D := (dC, dI)) (ci := 0) (C := RX0) (T := TX0) (N := 6) (ty := .int) hx hb hts iX0_begin_X0 tyX0 tyX0_ok nmX0 hown hK hP hD hS 0 rfl rfl 3 (by decide) (hts _ (List.mem_of_getElem? (i := 3) rfl)) (fun _ h9 => h9) rfl (by decide +kernel) rfl rfl (Nat.le_of_ble_eq_true rfl) dX0_begin_12 (fun H locs hP hD hS => ?_)
  have hP : va_P (dC, dI) vwCl [(a_t, .inr (0, [.int v_t_inCommand, .int p1, .int 0, .int 0, .int v_t_number, .int v_t_digits]))] H := hP
  have hD : va_D A [(a_t, .inr (0, [.int v_t_inCommand, .int p1, .int 0, .int 0, .int v_t_number, .int v_t_digits]))] := hD
  refine lv_aload_n hx hb dX0_begin_15 rfl (lv_at hl 0 rfl) ?_
  refine lv_iconst (v := 0) hx hb dX0_begin_16 (by decide) ?_
  refine va_put (D := (dC, dI)) (ci := 0) (C := RX0) (T := TX0) (N := 6) (ty := .int) hx hb hts iX0_begin_X0 tyX0 tyX0_ok nmX0 hown hK hP hD hS 0 rfl rfl 4 (by decide) (hts _ (List.mem_of_getElem? (i := 4) rfl)) (fun _ h9 => h9) rfl (by decide +kernel) rfl rfl (Nat.le_of_ble_eq_true rfl) dX0_begin_17 (fun H locs hP hD hS => ?_)
  have hP : va_P (dC, dI) vwCl [(a_t, .inr (0, [.int v_t_inCommand, .int p1, .int 0, .int 0, .int 0, .int v_t_digits]))] H := hP
  have hD : va_D A [(a_t, .inr (0, [.int v_t_inCommand, .int p1, .int 0, .int 0, .int 0, .int v_t_digits]))] := hD
  refine lv_aload_n hx hb dX0_begin_20 rfl (lv_at hl 0 rfl) ?_
  refine lv_iconst (v := 0) hx hb dX0_begin_21 (by decide) ?_
  refine va_put (D := (dC, dI)) (ci := 0) (C := RX0) (T := TX0) (N := 6) (ty := .int) hx hb hts iX0_begin_X0 tyX0 tyX0_ok nmX0 hown hK hP hD hS 0 rfl rfl 5 (by decide) (hts _ (List.mem_of_getElem? (i := 5) rfl)) (fun _ h9 => h9) rfl (by decide +kernel) rfl rfl (Nat.le_of_ble_eq_true rfl) dX0_begin_22 (fun H locs hP hD hS => ?_)
  have hP : va_P (dC, dI) vwCl [(a_t, .inr (0, [.int v_t_inCommand, .int p1, .int 0, .int 0, .int 0, .int 0]))] H := hP
  have hD : va_D A [(a_t, .inr (0, [.int v_t_inCommand, .int p1, .int 0, .int 0, .int 0, .int 0]))] := hD
  refine lv_aload_n hx hb dX0_begin_25 rfl (lv_at hl 0 rfl) ?_
  refine lv_aload_n hx hb dX0_begin_26 rfl (lv_at hl 0 rfl) ?_
  refine ro_callVz ⟨hx, hb, hml, hown, hts⟩ (kX0_hasName l dC dI cA a_t v_t_inCommand p1 0 0 0 0) (cwV 0 hts gX0_begin_X0_hasName rfl rfl rfl hdX0_hasName ⟨Nat.le_of_ble_eq_true rfl, Nat.le_of_ble_eq_true rfl⟩) (hP.sub [0] rfl) hK rfl rfl rfl hl.1 rfl (Nat.le_of_ble_eq_true rfl) dX0_begin_27 ⟨Nat.zero_le _, Nat.zero_le _⟩ (fun hb27 => ?_)
  refine lv_if_ne (tgt := 51) hx hb dX0_begin_30 (by decide) (fun c30 => ?_) (fun c30 => ?_)
  · try simp only [if_neg c30] at hm
    refine lv_iconst (v := 1) hx hb dX0_begin_51 (by decide) ?_
    refine lv_goto (tgt := 56) hx hb dX0_begin_52 (by decide) ?_
    refine va_put (D := (dC, dI)) (ci := 0) (C := RX0) (T := TX0) (N := 6) (ty := .boolean) hx hb hts iX0_begin_X0 tyX0 tyX0_ok nmX0 hown hK hP hD hS 0 rfl rfl 0 (by decide) (hts _ (List.mem_of_getElem? (i := 6) rfl)) (fun _ h9 => h9) rfl (by decide +kernel) rfl rfl (Nat.le_of_ble_eq_true rfl) dX0_begin_56 (fun H locs hP hD hS => ?_)
    have hP : va_P (dC, dI) vwCl [(a_t, .inr (0, [.int 1, .int p1, .int 0, .int 0, .int 0, .int 0]))] H := hP
    have hD : va_D A [(a_t, .inr (0, [.int 1, .int p1, .int 0, .int 0, .int 0, .int 0]))] := hD
    refine lv_aload_n hx hb dX0_begin_59 rfl (lv_at hl 0 rfl) ?_
    refine va_get (D := (dC, dI)) (ci := 0) (C := RX0) (T := TX0) (N := 6) hx hb hts iX0_begin_X0 hown hK hP 0 rfl rfl 0 (by decide) (hts _ (List.mem_of_getElem? (i := 6) rfl)) (fun _ h9 => h9) rfl dX0_begin_60 ?_
    cases hm
    exact mu_iret hx hb hr rfl ⟨rfl, rfl⟩ hP hD hS hK [0] rfl (by decide) dX0_begin_63 hlocks
  · try simp only [if_pos c30] at hm
    refine lv_aload_n hx hb dX0_begin_33 rfl (lv_at hl 0 rfl) ?_
    refine va_get (D := (dC, dI)) (ci := 0) (C := RX0) (T := TX0) (N := 6) hx hb hts iX0_begin_X0 hown hK hP 0 rfl rfl 1 (by decide) (hts _ (List.mem_of_getElem? (i := 1) rfl)) (fun _ h9 => h9) rfl dX0_begin_34 ?_
    refine lv_bipush (v := 61) hx hb dX0_begin_37 (by decide) ?_
    refine lv_icmp_eq (tgt := 51) hx hb dX0_begin_39 (by decide) (fun c39 => ?_) (fun c39 => ?_)
    · try simp only [if_pos c39] at hm
      refine lv_iconst (v := 1) hx hb dX0_begin_51 (by decide) ?_
      refine lv_goto (tgt := 56) hx hb dX0_begin_52 (by decide) ?_
      refine va_put (D := (dC, dI)) (ci := 0) (C := RX0) (T := TX0) (N := 6) (ty := .boolean) hx hb hts iX0_begin_X0 tyX0 tyX0_ok nmX0 hown hK hP hD hS 0 rfl rfl 0 (by decide) (hts _ (List.mem_of_getElem? (i := 6) rfl)) (fun _ h9 => h9) rfl (by decide +kernel) rfl rfl (Nat.le_of_ble_eq_true rfl) dX0_begin_56 (fun H locs hP hD hS => ?_)
      have hP : va_P (dC, dI) vwCl [(a_t, .inr (0, [.int 1, .int p1, .int 0, .int 0, .int 0, .int 0]))] H := hP
      have hD : va_D A [(a_t, .inr (0, [.int 1, .int p1, .int 0, .int 0, .int 0, .int 0]))] := hD
      refine lv_aload_n hx hb dX0_begin_59 rfl (lv_at hl 0 rfl) ?_
      refine va_get (D := (dC, dI)) (ci := 0) (C := RX0) (T := TX0) (N := 6) hx hb hts iX0_begin_X0 hown hK hP 0 rfl rfl 0 (by decide) (hts _ (List.mem_of_getElem? (i := 6) rfl)) (fun _ h9 => h9) rfl dX0_begin_60 ?_
      cases hm
      exact mu_iret hx hb hr rfl ⟨rfl, rfl⟩ hP hD hS hK [0] rfl (by decide) dX0_begin_63 hlocks
    · try simp only [if_neg c39] at hm
      refine lv_aload_n hx hb dX0_begin_42 rfl (lv_at hl 0 rfl) ?_
      refine va_get (D := (dC, dI)) (ci := 0) (C := RX0) (T := TX0) (N := 6) hx hb hts iX0_begin_X0 hown hK hP 0 rfl rfl 1 (by decide) (hts _ (List.mem_of_getElem? (i := 1) rfl)) (fun _ h9 => h9) rfl dX0_begin_43 ?_
      refine lv_bipush (v := 42) hx hb dX0_begin_46 (by decide) ?_
      refine lv_icmp_ne (tgt := 55) hx hb dX0_begin_48 (by decide) (fun c48 => ?_) (fun c48 => ?_)
      · try simp only [if_neg c48] at hm
        refine lv_iconst (v := 0) hx hb dX0_begin_55 (by decide) ?_
        refine va_put (D := (dC, dI)) (ci := 0) (C := RX0) (T := TX0) (N := 6) (ty := .boolean) hx hb hts iX0_begin_X0 tyX0 tyX0_ok nmX0 hown hK hP hD hS 0 rfl rfl 0 (by decide) (hts _ (List.mem_of_getElem? (i := 6) rfl)) (fun _ h9 => h9) rfl (by decide +kernel) rfl rfl (Nat.le_of_ble_eq_true rfl) dX0_begin_56 (fun H locs hP hD hS => ?_)
        have hP : va_P (dC, dI) vwCl [(a_t, .inr (0, [.int 0, .int p1, .int 0, .int 0, .int 0, .int 0]))] H := hP
        have hD : va_D A [(a_t, .inr (0, [.int 0, .int p1, .int 0, .int 0, .int 0, .int 0]))] := hD
        refine lv_aload_n hx hb dX0_begin_59 rfl (lv_at hl 0 rfl) ?_
        refine va_get (D := (dC, dI)) (ci := 0) (C := RX0) (T := TX0) (N := 6) hx hb hts iX0_begin_X0 hown hK hP 0 rfl rfl 0 (by decide) (hts _ (List.mem_of_getElem? (i := 6) rfl)) (fun _ h9 => h9) rfl dX0_begin_60 ?_
        cases hm
        exact mu_iret hx hb hr rfl ⟨rfl, rfl⟩ hP hD hS hK [0] rfl (by decide) dX0_begin_63 hlocks
      · try simp only [if_pos c48] at hm
        refine lv_iconst (v := 1) hx hb dX0_begin_51 (by decide) ?_
        refine lv_goto (tgt := 56) hx hb dX0_begin_52 (by decide) ?_
        refine va_put (D := (dC, dI)) (ci := 0) (C := RX0) (T := TX0) (N := 6) (ty := .boolean) hx hb hts iX0_begin_X0 tyX0 tyX0_ok nmX0 hown hK hP hD hS 0 rfl rfl 0 (by decide) (hts _ (List.mem_of_getElem? (i := 6) rfl)) (fun _ h9 => h9) rfl (by decide +kernel) rfl rfl (Nat.le_of_ble_eq_true rfl) dX0_begin_56 (fun H locs hP hD hS => ?_)
        have hP : va_P (dC, dI) vwCl [(a_t, .inr (0, [.int 1, .int p1, .int 0, .int 0, .int 0, .int 0]))] H := hP
        have hD : va_D A [(a_t, .inr (0, [.int 1, .int p1, .int 0, .int 0, .int 0, .int 0]))] := hD
        refine lv_aload_n hx hb dX0_begin_59 rfl (lv_at hl 0 rfl) ?_
        refine va_get (D := (dC, dI)) (ci := 0) (C := RX0) (T := TX0) (N := 6) hx hb hts iX0_begin_X0 hown hK hP 0 rfl rfl 0 (by decide) (hts _ (List.mem_of_getElem? (i := 6) rfl)) (fun _ h9 => h9) rfl dX0_begin_60 ?_
        cases hm
        exact mu_iret hx hb hr rfl ⟨rfl, rfl⟩ hP hD hS hK [0] rfl (by decide) dX0_begin_63 hlocks
def mX0_isWhole (v_t_kind : Int32) (v_t_length : Int32) (v_t_digits : Int32) : Int32 :=
  (if v_t_kind = 61 then
    (if v_t_digits = 1 then (1 : Int32) else 0)
  else
    (if v_t_kind = 42 then 1 else (if v_t_length ≤ 0 then (0 : Int32) else 1)))
abbrev rmX0_isWhole : Room := { frames := 0, cells := 0, slots := 0, locals := 0 }
abbrev wX0_isWhole (cA : ClassId) (a_t : Nat) (v_t_inCommand v_t_kind v_t_letters v_t_length v_t_number v_t_digits : Int32) : va_W := [(a_t, .inr (0, [.int v_t_inCommand, .int v_t_kind, .int v_t_letters, .int v_t_length, .int v_t_number, .int v_t_digits]))]
theorem iX0_isWhole_X0 : ∀ w ∈ wsX00, w ∈ wsX0_isWhole := (fun _ h => List.mem_cons_of_mem _ (List.mem_append_right _ h))
theorem hdX0_isWhole : yX0_isWhole.cls = RX0 ∧ yX0_isWhole.cls ≠ "java/lang/invoke/MethodHandle" ∧ yX0_isWhole.cls ≠ "java/lang/invoke/VarHandle" ∧ (parseMethodDescriptor yX0_isWhole.desc).map (fun d => d.parameters.length) = some 0 := by decide +kernel
set_option maxHeartbeats 4000000 in
set_option maxRecDepth 100000 in
theorem kX0_isWhole (l : Launch) (dC : Nat → ClassId) (dI : Nat → Nat → Nat) (cA : ClassId) (a_t : Nat) (v_t_inCommand v_t_kind v_t_letters v_t_length v_t_number v_t_digits : Int32) : Met l yX0_isWhole wsX0_isWhole rmX0_isWhole (rpc (dC, dI) [(cA, .int)] (wX0_isWhole cA a_t v_t_inCommand v_t_kind v_t_letters v_t_length v_t_number v_t_digits) [.ref a_t]) (vp_Si (fun x => x = (mX0_isWhole v_t_kind v_t_length v_t_digits) ∧ nbr (mX0_isWhole v_t_kind v_t_length v_t_digits))) 0 0 (fun _ => False) := by
  obtain ⟨r, hm⟩ : ∃ r, mX0_isWhole v_t_kind v_t_length v_t_digits = r := ⟨_, rfl⟩
  rw [hm]
  unfold mX0_isWhole at hm
  refine ro_ofW (cc := cX0_isWhole) (maxL := 1) (ret := (some .boolean)) (own := RX0) (by decide) rfl rfl (Nat.le_of_ble_eq_true rfl) ?_
  intro p e s m args below meth c hx hb hr hts hown hlocks hml hP hK ls hl
  have hl : lv_has ls 1 [(0, .ref a_t)] := hl
  have hP : va_P (dC, dI) vwCl [(a_t, .inr (0, [.int v_t_inCommand, .int v_t_kind, .int v_t_letters, .int v_t_length, .int v_t_number, .int v_t_digits]))] s.heap := hP
  refine lv_aload_n hx hb dX0_isWhole_0 rfl (lv_at hl 0 rfl) ?_
  refine va_get (D := (dC, dI)) (ci := 0) (C := RX0) (T := TX0) (N := 6) hx hb hts iX0_isWhole_X0 hown hK hP 0 rfl rfl 1 (by decide) (hts _ (List.mem_of_getElem? (i := 1) rfl)) (fun _ h9 => h9) rfl dX0_isWhole_1 ?_
  refine lv_bipush (v := 61) hx hb dX0_isWhole_4 (by decide) ?_
  refine lv_icmp_ne (tgt := 23) hx hb dX0_isWhole_6 (by decide) (fun c6 => ?_) (fun c6 => ?_)
  · rw [if_neg c6] at hm
    refine lv_aload_n hx hb dX0_isWhole_23 rfl (lv_at hl 0 rfl) ?_
    refine va_get (D := (dC, dI)) (ci := 0) (C := RX0) (T := TX0) (N := 6) hx hb hts iX0_isWhole_X0 hown hK hP 0 rfl rfl 1 (by decide) (hts _ (List.mem_of_getElem? (i := 1) rfl)) (fun _ h9 => h9) rfl dX0_isWhole_24 ?_
    refine lv_bipush (v := 42) hx hb dX0_isWhole_27 (by decide) ?_
    refine lv_icmp_eq (tgt := 39) hx hb dX0_isWhole_29 (by decide) (fun c29 => ?_) (fun c29 => ?_)
    · try simp only [if_pos c29] at hm
      refine lv_iconst (v := 1) hx hb dX0_isWhole_39 (by decide) ?_
      refine lv_goto (tgt := 44) hx hb dX0_isWhole_40 (by decide) ?_
      subst hm
      exact ro_iret hx hb hr rfl ⟨rfl, rfl⟩ dX0_isWhole_44 hlocks
    · try simp only [if_neg c29] at hm
      refine lv_aload_n hx hb dX0_isWhole_32 rfl (lv_at hl 0 rfl) ?_
      refine va_get (D := (dC, dI)) (ci := 0) (C := RX0) (T := TX0) (N := 6) hx hb hts iX0_isWhole_X0 hown hK hP 0 rfl rfl 3 (by decide) (hts _ (List.mem_of_getElem? (i := 3) rfl)) (fun _ h9 => h9) rfl dX0_isWhole_33 ?_
      refine lv_if_le (tgt := 43) hx hb dX0_isWhole_36 (by decide) (fun c36 => ?_) (fun c36 => ?_)
      · try simp only [if_pos c36] at hm
        refine lv_iconst (v := 0) hx hb dX0_isWhole_43 (by decide) ?_
        subst hm
        exact ro_iret hx hb hr rfl ⟨rfl, rfl⟩ dX0_isWhole_44 hlocks
      · try simp only [if_neg c36] at hm
        refine lv_iconst (v := 1) hx hb dX0_isWhole_39 (by decide) ?_
        refine lv_goto (tgt := 44) hx hb dX0_isWhole_40 (by decide) ?_
        subst hm
        exact ro_iret hx hb hr rfl ⟨rfl, rfl⟩ dX0_isWhole_44 hlocks
  · rw [if_pos c6] at hm
    refine lv_aload_n hx hb dX0_isWhole_9 rfl (lv_at hl 0 rfl) ?_
    refine va_get (D := (dC, dI)) (ci := 0) (C := RX0) (T := TX0) (N := 6) hx hb hts iX0_isWhole_X0 hown hK hP 0 rfl rfl 5 (by decide) (hts _ (List.mem_of_getElem? (i := 2) rfl)) (fun _ h9 => h9) rfl dX0_isWhole_10 ?_
    refine lv_iconst (v := 1) hx hb dX0_isWhole_13 (by decide) ?_
    refine lv_icmp_ne (tgt := 21) hx hb dX0_isWhole_14 (by decide) (fun c14 => ?_) (fun c14 => ?_)
    · try simp only [if_neg c14] at hm
      refine lv_iconst (v := 0) hx hb dX0_isWhole_21 (by decide) ?_
      subst hm
      exact ro_iret hx hb hr rfl ⟨rfl, rfl⟩ dX0_isWhole_22 hlocks
    · try simp only [if_pos c14] at hm
      refine lv_iconst (v := 1) hx hb dX0_isWhole_17 (by decide) ?_
      refine lv_goto (tgt := 22) hx hb dX0_isWhole_18 (by decide) ?_
      subst hm
      exact ro_iret hx hb hr rfl ⟨rfl, rfl⟩ dX0_isWhole_22 hlocks
def mX0_readLetter (v_t_kind : Int32) (v_t_letters : Int32) (v_t_length : Int32) (v_t_digits : Int32) (p1 : Int32) : Option (Int32 × Int32 × Int32) :=
  (if (mX0_hasName v_t_kind) = 0 then
    some (0, v_t_letters, v_t_length)
  else
    (if 0 < v_t_digits then
      some (0, v_t_letters, v_t_length)
    else
      (if v_t_length = 8 then
        some (0, v_t_letters, v_t_length)
      else
        some (1, ((v_t_letters * 8) + p1), (v_t_length + 1)))))
abbrev rmX0_readLetter : Room := { frames := 1, cells := 0, slots := 0, locals := 20 }
abbrev wX0_readLetter (cA : ClassId) (a_t : Nat) (v_t_inCommand v_t_kind v_t_letters v_t_length v_t_number v_t_digits : Int32) : va_W := [(a_t, .inr (0, [.int v_t_inCommand, .int v_t_kind, .int v_t_letters, .int v_t_length, .int v_t_number, .int v_t_digits]))]
theorem iX0_readLetter_X0 : ∀ w ∈ wsX00, w ∈ wsX0_readLetter := (fun _ h => List.mem_cons_of_mem _ (List.mem_append_right _ h))
theorem hdX0_readLetter : yX0_readLetter.cls = RX0 ∧ yX0_readLetter.cls ≠ "java/lang/invoke/MethodHandle" ∧ yX0_readLetter.cls ≠ "java/lang/invoke/VarHandle" ∧ (parseMethodDescriptor yX0_readLetter.desc).map (fun d => d.parameters.length) = some 1 := by decide +kernel
set_option maxHeartbeats 4000000 in
set_option maxRecDepth 100000 in
theorem kX0_readLetter (l : Launch) (dC : Nat → ClassId) (dI : Nat → Nat → Nat) (cA : ClassId) (a_t : Nat) (v_t_inCommand v_t_kind v_t_letters v_t_length v_t_number v_t_digits p1 : Int32) (sz : Nat) (r o_v_t_letters o_v_t_length : Int32) (hm : (mX0_readLetter v_t_kind v_t_letters v_t_length v_t_digits p1) = some (r, o_v_t_letters, o_v_t_length)) : Met l yX0_readLetter wsX0_readLetter rmX0_readLetter (mpc (dC, dI) [(cA, .int)] (wX0_readLetter cA a_t v_t_inCommand v_t_kind v_t_letters v_t_length v_t_number v_t_digits) [.ref a_t, .int p1] sz) (mqi (dC, dI) [(cA, .int)] (va_A (wX0_readLetter cA a_t v_t_inCommand v_t_kind v_t_letters v_t_length v_t_number v_t_digits) sz) (wX0_readLetter cA a_t v_t_inCommand v_t_kind o_v_t_letters o_v_t_length v_t_number v_t_digits) (fun x => x = r ∧ nbr r)) 0 0 (va_A (wX0_readLetter cA a_t v_t_inCommand v_t_kind v_t_letters v_t_length v_t_number v_t_digits) sz) := by
  unfold mX0_readLetter at hm
  refine mu_ofW (Qc := fun A => mqi (dC, dI) [(cA, .int)] A (wX0_readLetter cA a_t v_t_inCommand v_t_kind o_v_t_letters o_v_t_length v_t_number v_t_digits) (fun x => x = r ∧ nbr r)) (cc := cX0_readLetter) (maxL := 2) (ret := (some .boolean)) (own := RX0) (by decide) rfl rfl (Nat.le_of_ble_eq_true rfl) ?_
  intro p e s m args below meth c hx hb hr hts hown hlocks hml hin A hA hP hD hS hK ls hl
  have hl : lv_has ls 2 [(0, .ref a_t), (1, .int p1)] := hl
  have hP : va_P (dC, dI) vwCl [(a_t, .inr (0, [.int v_t_inCommand, .int v_t_kind, .int v_t_letters, .int v_t_length, .int v_t_number, .int v_t_digits]))] s.heap := hP
  have hD : va_D A [(a_t, .inr (0, [.int v_t_inCommand, .int v_t_kind, .int v_t_letters, .int v_t_length, .int v_t_number, .int v_t_digits]))] := hD
  refine lv_aload_n hx hb dX0_readLetter_0 rfl (lv_at hl 0 rfl) ?_
  refine ro_callVz ⟨hx, hb, hml, hown, hts⟩ (kX0_hasName l dC dI cA a_t v_t_inCommand v_t_kind v_t_letters v_t_length v_t_number v_t_digits) (cwV 0 hts gX0_readLetter_X0_hasName rfl rfl rfl hdX0_hasName ⟨Nat.le_of_ble_eq_true rfl, Nat.le_of_ble_eq_true rfl⟩) (hP.sub [0] rfl) hK rfl rfl rfl hl.1 rfl (Nat.le_of_ble_eq_true rfl) dX0_readLetter_1 ⟨Nat.zero_le _, Nat.zero_le _⟩ (fun hb1 => ?_)
  refine lv_if_eq (tgt := 23) hx hb dX0_readLetter_4 (by decide) (fun c4 => ?_) (fun c4 => ?_)
  · rw [if_pos c4] at hm
    refine lv_iconst (v := 0) hx hb dX0_readLetter_23 (by decide) ?_
    cases hm
    exact mu_iret hx hb hr rfl ⟨rfl, rfl⟩ hP hD hS hK [0] rfl (by decide) dX0_readLetter_24 hlocks
  · rw [if_neg c4] at hm
    refine lv_aload_n hx hb dX0_readLetter_7 rfl (lv_at hl 0 rfl) ?_
    refine va_get (D := (dC, dI)) (ci := 0) (C := RX0) (T := TX0) (N := 6) hx hb hts iX0_readLetter_X0 hown hK hP 0 rfl rfl 5 (by decide) (hts _ (List.mem_of_getElem? (i := 1) rfl)) (fun _ h9 => h9) rfl dX0_readLetter_8 ?_
    refine lv_if_gt (tgt := 23) hx hb dX0_readLetter_11 (by decide) (fun c11 => ?_) (fun c11 => ?_)
    · rw [if_pos c11] at hm
      refine lv_iconst (v := 0) hx hb dX0_readLetter_23 (by decide) ?_
      cases hm
      exact mu_iret hx hb hr rfl ⟨rfl, rfl⟩ hP hD hS hK [0] rfl (by decide) dX0_readLetter_24 hlocks
    · rw [if_neg c11] at hm
      refine lv_aload_n hx hb dX0_readLetter_14 rfl (lv_at hl 0 rfl) ?_
      refine va_get (D := (dC, dI)) (ci := 0) (C := RX0) (T := TX0) (N := 6) hx hb hts iX0_readLetter_X0 hown hK hP 0 rfl rfl 3 (by decide) (hts _ (List.mem_of_getElem? (i := 2) rfl)) (fun _ h9 => h9) rfl dX0_readLetter_15 ?_
      refine lv_bipush (v := 8) hx hb dX0_readLetter_18 (by decide) ?_
      refine lv_icmp_ne (tgt := 25) hx hb dX0_readLetter_20 (by decide) (fun c20 => ?_) (fun c20 => ?_)
      · rw [if_neg c20] at hm
        refine lv_aload_n hx hb dX0_readLetter_25 rfl (lv_at hl 0 rfl) ?_
        refine lv_aload_n hx hb dX0_readLetter_26 rfl (lv_at hl 0 rfl) ?_
        refine va_get (D := (dC, dI)) (ci := 0) (C := RX0) (T := TX0) (N := 6) hx hb hts iX0_readLetter_X0 hown hK hP 0 rfl rfl 2 (by decide) (hts _ (List.mem_of_getElem? (i := 3) rfl)) (fun _ h9 => h9) rfl dX0_readLetter_27 ?_
        refine lv_bipush (v := 8) hx hb dX0_readLetter_30 (by decide) ?_
        refine lv_imul hx hb dX0_readLetter_32 ?_
        refine lv_iload_n hx hb dX0_readLetter_33 rfl (lv_at hl 1 rfl) ?_
        refine lv_iadd hx hb dX0_readLetter_34 ?_
        refine va_put (D := (dC, dI)) (ci := 0) (C := RX0) (T := TX0) (N := 6) (ty := .int) hx hb hts iX0_readLetter_X0 tyX0 tyX0_ok nmX0 hown hK hP hD hS 0 rfl rfl 2 (by decide) (hts _ (List.mem_of_getElem? (i := 3) rfl)) (fun _ h9 => h9) rfl (by decide +kernel) rfl rfl (Nat.le_of_ble_eq_true rfl) dX0_readLetter_35 (fun H locs hP hD hS => ?_)
        have hP : va_P (dC, dI) vwCl [(a_t, .inr (0, [.int v_t_inCommand, .int v_t_kind, .int ((v_t_letters * 8) + p1), .int v_t_length, .int v_t_number, .int v_t_digits]))] H := hP
        have hD : va_D A [(a_t, .inr (0, [.int v_t_inCommand, .int v_t_kind, .int ((v_t_letters * 8) + p1), .int v_t_length, .int v_t_number, .int v_t_digits]))] := hD
        refine lv_aload_n hx hb dX0_readLetter_38 rfl (lv_at hl 0 rfl) ?_
        refine lv_dup hx hb dX0_readLetter_39 rfl ?_
        refine va_get (D := (dC, dI)) (ci := 0) (C := RX0) (T := TX0) (N := 6) hx hb hts iX0_readLetter_X0 hown hK hP 0 rfl rfl 3 (by decide) (hts _ (List.mem_of_getElem? (i := 2) rfl)) (fun _ h9 => h9) rfl dX0_readLetter_40 ?_
        refine lv_iconst (v := 1) hx hb dX0_readLetter_43 (by decide) ?_
        refine lv_iadd hx hb dX0_readLetter_44 ?_
        refine va_put (D := (dC, dI)) (ci := 0) (C := RX0) (T := TX0) (N := 6) (ty := .int) hx hb hts iX0_readLetter_X0 tyX0 tyX0_ok nmX0 hown hK hP hD hS 0 rfl rfl 3 (by decide) (hts _ (List.mem_of_getElem? (i := 2) rfl)) (fun _ h9 => h9) rfl (by decide +kernel) rfl rfl (Nat.le_of_ble_eq_true rfl) dX0_readLetter_45 (fun H locs hP hD hS => ?_)
        have hP : va_P (dC, dI) vwCl [(a_t, .inr (0, [.int v_t_inCommand, .int v_t_kind, .int ((v_t_letters * 8) + p1), .int (v_t_length + 1), .int v_t_number, .int v_t_digits]))] H := hP
        have hD : va_D A [(a_t, .inr (0, [.int v_t_inCommand, .int v_t_kind, .int ((v_t_letters * 8) + p1), .int (v_t_length + 1), .int v_t_number, .int v_t_digits]))] := hD
        refine lv_iconst (v := 1) hx hb dX0_readLetter_48 (by decide) ?_
        cases hm
        exact mu_iret hx hb hr rfl ⟨rfl, rfl⟩ hP hD hS hK [0] rfl (by decide) dX0_readLetter_49 hlocks
      · rw [if_pos c20] at hm
        refine lv_iconst (v := 0) hx hb dX0_readLetter_23 (by decide) ?_
        cases hm
        exact mu_iret hx hb hr rfl ⟨rfl, rfl⟩ hP hD hS hK [0] rfl (by decide) dX0_readLetter_24 hlocks
def mX0_mostDigits (v_t_kind : Int32) (v_t_length : Int32) : Int32 :=
  (if v_t_kind = 61 then
    1
  else
    (if v_t_kind = 43 then (if v_t_length ≤ 0 then (0 : Int32) else 2) else 0))
abbrev rmX0_mostDigits : Room := { frames := 0, cells := 0, slots := 0, locals := 0 }
abbrev wX0_mostDigits (cA : ClassId) (a_t : Nat) (v_t_inCommand v_t_kind v_t_letters v_t_length v_t_number v_t_digits : Int32) : va_W := [(a_t, .inr (0, [.int v_t_inCommand, .int v_t_kind, .int v_t_letters, .int v_t_length, .int v_t_number, .int v_t_digits]))]
theorem iX0_mostDigits_X0 : ∀ w ∈ wsX00, w ∈ wsX0_mostDigits := (fun _ h => List.mem_cons_of_mem _ (List.mem_append_right _ h))
theorem hdX0_mostDigits : yX0_mostDigits.cls = RX0 ∧ yX0_mostDigits.cls ≠ "java/lang/invoke/MethodHandle" ∧ yX0_mostDigits.cls ≠ "java/lang/invoke/VarHandle" ∧ (parseMethodDescriptor yX0_mostDigits.desc).map (fun d => d.parameters.length) = some 0 := by decide +kernel
set_option maxHeartbeats 4000000 in
set_option maxRecDepth 100000 in
theorem kX0_mostDigits (l : Launch) (dC : Nat → ClassId) (dI : Nat → Nat → Nat) (cA : ClassId) (a_t : Nat) (v_t_inCommand v_t_kind v_t_letters v_t_length v_t_number v_t_digits : Int32) : Met l yX0_mostDigits wsX0_mostDigits rmX0_mostDigits (rpc (dC, dI) [(cA, .int)] (wX0_mostDigits cA a_t v_t_inCommand v_t_kind v_t_letters v_t_length v_t_number v_t_digits) [.ref a_t]) (vp_Si (fun x => x = (mX0_mostDigits v_t_kind v_t_length))) 0 0 (fun _ => False) := by
  obtain ⟨r, hm⟩ : ∃ r, mX0_mostDigits v_t_kind v_t_length = r := ⟨_, rfl⟩
  rw [hm]
  unfold mX0_mostDigits at hm
  refine ro_ofW (cc := cX0_mostDigits) (maxL := 1) (ret := (some .int)) (own := RX0) (by decide) rfl rfl (Nat.le_of_ble_eq_true rfl) ?_
  intro p e s m args below meth c hx hb hr hts hown hlocks hml hP hK ls hl
  have hl : lv_has ls 1 [(0, .ref a_t)] := hl
  have hP : va_P (dC, dI) vwCl [(a_t, .inr (0, [.int v_t_inCommand, .int v_t_kind, .int v_t_letters, .int v_t_length, .int v_t_number, .int v_t_digits]))] s.heap := hP
  refine lv_aload_n hx hb dX0_mostDigits_0 rfl (lv_at hl 0 rfl) ?_
  refine va_get (D := (dC, dI)) (ci := 0) (C := RX0) (T := TX0) (N := 6) hx hb hts iX0_mostDigits_X0 hown hK hP 0 rfl rfl 1 (by decide) (hts _ (List.mem_of_getElem? (i := 1) rfl)) (fun _ h9 => h9) rfl dX0_mostDigits_1 ?_
  refine lv_bipush (v := 61) hx hb dX0_mostDigits_4 (by decide) ?_
  refine lv_icmp_ne (tgt := 11) hx hb dX0_mostDigits_6 (by decide) (fun c6 => ?_) (fun c6 => ?_)
  · rw [if_neg c6] at hm
    refine lv_aload_n hx hb dX0_mostDigits_11 rfl (lv_at hl 0 rfl) ?_
    refine va_get (D := (dC, dI)) (ci := 0) (C := RX0) (T := TX0) (N := 6) hx hb hts iX0_mostDigits_X0 hown hK hP 0 rfl rfl 1 (by decide) (hts _ (List.mem_of_getElem? (i := 1) rfl)) (fun _ h9 => h9) rfl dX0_mostDigits_12 ?_
    refine lv_bipush (v := 43) hx hb dX0_mostDigits_15 (by decide) ?_
    refine lv_icmp_ne (tgt := 31) hx hb dX0_mostDigits_17 (by decide) (fun c17 => ?_) (fun c17 => ?_)
    · try simp only [if_neg c17] at hm
      refine lv_iconst (v := 0) hx hb dX0_mostDigits_31 (by decide) ?_
      subst hm
      exact ro_iret hx hb hr rfl rfl dX0_mostDigits_32 hlocks
    · try simp only [if_pos c17] at hm
      refine lv_aload_n hx hb dX0_mostDigits_20 rfl (lv_at hl 0 rfl) ?_
      refine va_get (D := (dC, dI)) (ci := 0) (C := RX0) (T := TX0) (N := 6) hx hb hts iX0_mostDigits_X0 hown hK hP 0 rfl rfl 3 (by decide) (hts _ (List.mem_of_getElem? (i := 2) rfl)) (fun _ h9 => h9) rfl dX0_mostDigits_21 ?_
      refine lv_if_le (tgt := 31) hx hb dX0_mostDigits_24 (by decide) (fun c24 => ?_) (fun c24 => ?_)
      · try simp only [if_pos c24] at hm
        refine lv_iconst (v := 0) hx hb dX0_mostDigits_31 (by decide) ?_
        subst hm
        exact ro_iret hx hb hr rfl rfl dX0_mostDigits_32 hlocks
      · try simp only [if_neg c24] at hm
        refine lv_iconst (v := 2) hx hb dX0_mostDigits_27 (by decide) ?_
        refine lv_goto (tgt := 32) hx hb dX0_mostDigits_28 (by decide) ?_
        subst hm
        exact ro_iret hx hb hr rfl rfl dX0_mostDigits_32 hlocks
  · rw [if_pos c6] at hm
    refine lv_iconst (v := 1) hx hb dX0_mostDigits_9 (by decide) ?_
    subst hm
    exact ro_iret hx hb hr rfl rfl dX0_mostDigits_10 hlocks
def mX0_readDigit (v_t_kind : Int32) (v_t_length : Int32) (v_t_number : Int32) (v_t_digits : Int32) (p1 : Int32) : Option (Int32 × Int32 × Int32) :=
  (if v_t_digits = (mX0_mostDigits v_t_kind v_t_length) then
    some (0, v_t_number, v_t_digits)
  else
    some (1, ((v_t_number * 10) + p1), (v_t_digits + 1)))
abbrev rmX0_readDigit : Room := { frames := 1, cells := 0, slots := 0, locals := 20 }
abbrev wX0_readDigit (cA : ClassId) (a_t : Nat) (v_t_inCommand v_t_kind v_t_letters v_t_length v_t_number v_t_digits : Int32) : va_W := [(a_t, .inr (0, [.int v_t_inCommand, .int v_t_kind, .int v_t_letters, .int v_t_length, .int v_t_number, .int v_t_digits]))]
theorem iX0_readDigit_X0 : ∀ w ∈ wsX00, w ∈ wsX0_readDigit := (fun _ h => List.mem_cons_of_mem _ (List.mem_append_right _ h))
theorem hdX0_readDigit : yX0_readDigit.cls = RX0 ∧ yX0_readDigit.cls ≠ "java/lang/invoke/MethodHandle" ∧ yX0_readDigit.cls ≠ "java/lang/invoke/VarHandle" ∧ (parseMethodDescriptor yX0_readDigit.desc).map (fun d => d.parameters.length) = some 1 := by decide +kernel
set_option maxHeartbeats 4000000 in
set_option maxRecDepth 100000 in
theorem kX0_readDigit (l : Launch) (dC : Nat → ClassId) (dI : Nat → Nat → Nat) (cA : ClassId) (a_t : Nat) (v_t_inCommand v_t_kind v_t_letters v_t_length v_t_number v_t_digits p1 : Int32) (sz : Nat) (r o_v_t_number o_v_t_digits : Int32) (hm : (mX0_readDigit v_t_kind v_t_length v_t_number v_t_digits p1) = some (r, o_v_t_number, o_v_t_digits)) : Met l yX0_readDigit wsX0_readDigit rmX0_readDigit (mpc (dC, dI) [(cA, .int)] (wX0_readDigit cA a_t v_t_inCommand v_t_kind v_t_letters v_t_length v_t_number v_t_digits) [.ref a_t, .int p1] sz) (mqi (dC, dI) [(cA, .int)] (va_A (wX0_readDigit cA a_t v_t_inCommand v_t_kind v_t_letters v_t_length v_t_number v_t_digits) sz) (wX0_readDigit cA a_t v_t_inCommand v_t_kind v_t_letters v_t_length o_v_t_number o_v_t_digits) (fun x => x = r ∧ nbr r)) 0 0 (va_A (wX0_readDigit cA a_t v_t_inCommand v_t_kind v_t_letters v_t_length v_t_number v_t_digits) sz) := by
  unfold mX0_readDigit at hm
  refine mu_ofW (Qc := fun A => mqi (dC, dI) [(cA, .int)] A (wX0_readDigit cA a_t v_t_inCommand v_t_kind v_t_letters v_t_length o_v_t_number o_v_t_digits) (fun x => x = r ∧ nbr r)) (cc := cX0_readDigit) (maxL := 2) (ret := (some .boolean)) (own := RX0) (by decide) rfl rfl (Nat.le_of_ble_eq_true rfl) ?_
  intro p e s m args below meth c hx hb hr hts hown hlocks hml hin A hA hP hD hS hK ls hl
  have hl : lv_has ls 2 [(0, .ref a_t), (1, .int p1)] := hl
  have hP : va_P (dC, dI) vwCl [(a_t, .inr (0, [.int v_t_inCommand, .int v_t_kind, .int v_t_letters, .int v_t_length, .int v_t_number, .int v_t_digits]))] s.heap := hP
  have hD : va_D A [(a_t, .inr (0, [.int v_t_inCommand, .int v_t_kind, .int v_t_letters, .int v_t_length, .int v_t_number, .int v_t_digits]))] := hD
  refine lv_aload_n hx hb dX0_readDigit_0 rfl (lv_at hl 0 rfl) ?_
  refine va_get (D := (dC, dI)) (ci := 0) (C := RX0) (T := TX0) (N := 6) hx hb hts iX0_readDigit_X0 hown hK hP 0 rfl rfl 5 (by decide) (hts _ (List.mem_of_getElem? (i := 1) rfl)) (fun _ h9 => h9) rfl dX0_readDigit_1 ?_
  refine lv_aload_n hx hb dX0_readDigit_4 rfl (lv_at hl 0 rfl) ?_
  refine ro_callVe ⟨hx, hb, hml, hown, hts⟩ (kX0_mostDigits l dC dI cA a_t v_t_inCommand v_t_kind v_t_letters v_t_length v_t_number v_t_digits) (cwV 0 hts gX0_readDigit_X0_mostDigits rfl rfl rfl hdX0_mostDigits ⟨Nat.le_of_ble_eq_true rfl, Nat.le_of_ble_eq_true rfl⟩) (hP.sub [0] rfl) hK rfl rfl rfl hl.1 rfl (Nat.le_of_ble_eq_true rfl) dX0_readDigit_5 ⟨Nat.zero_le _, Nat.zero_le _⟩ ?_
  refine lv_icmp_ne (tgt := 13) hx hb dX0_readDigit_8 (by decide) (fun c8 => ?_) (fun c8 => ?_)
  · rw [if_neg c8] at hm
    refine lv_aload_n hx hb dX0_readDigit_13 rfl (lv_at hl 0 rfl) ?_
    refine lv_aload_n hx hb dX0_readDigit_14 rfl (lv_at hl 0 rfl) ?_
    refine va_get (D := (dC, dI)) (ci := 0) (C := RX0) (T := TX0) (N := 6) hx hb hts iX0_readDigit_X0 hown hK hP 0 rfl rfl 4 (by decide) (hts _ (List.mem_of_getElem? (i := 2) rfl)) (fun _ h9 => h9) rfl dX0_readDigit_15 ?_
    refine lv_bipush (v := 10) hx hb dX0_readDigit_18 (by decide) ?_
    refine lv_imul hx hb dX0_readDigit_20 ?_
    refine lv_iload_n hx hb dX0_readDigit_21 rfl (lv_at hl 1 rfl) ?_
    refine lv_iadd hx hb dX0_readDigit_22 ?_
    refine va_put (D := (dC, dI)) (ci := 0) (C := RX0) (T := TX0) (N := 6) (ty := .int) hx hb hts iX0_readDigit_X0 tyX0 tyX0_ok nmX0 hown hK hP hD hS 0 rfl rfl 4 (by decide) (hts _ (List.mem_of_getElem? (i := 2) rfl)) (fun _ h9 => h9) rfl (by decide +kernel) rfl rfl (Nat.le_of_ble_eq_true rfl) dX0_readDigit_23 (fun H locs hP hD hS => ?_)
    have hP : va_P (dC, dI) vwCl [(a_t, .inr (0, [.int v_t_inCommand, .int v_t_kind, .int v_t_letters, .int v_t_length, .int ((v_t_number * 10) + p1), .int v_t_digits]))] H := hP
    have hD : va_D A [(a_t, .inr (0, [.int v_t_inCommand, .int v_t_kind, .int v_t_letters, .int v_t_length, .int ((v_t_number * 10) + p1), .int v_t_digits]))] := hD
    refine lv_aload_n hx hb dX0_readDigit_26 rfl (lv_at hl 0 rfl) ?_
    refine lv_dup hx hb dX0_readDigit_27 rfl ?_
    refine va_get (D := (dC, dI)) (ci := 0) (C := RX0) (T := TX0) (N := 6) hx hb hts iX0_readDigit_X0 hown hK hP 0 rfl rfl 5 (by decide) (hts _ (List.mem_of_getElem? (i := 1) rfl)) (fun _ h9 => h9) rfl dX0_readDigit_28 ?_
    refine lv_iconst (v := 1) hx hb dX0_readDigit_31 (by decide) ?_
    refine lv_iadd hx hb dX0_readDigit_32 ?_
    refine va_put (D := (dC, dI)) (ci := 0) (C := RX0) (T := TX0) (N := 6) (ty := .int) hx hb hts iX0_readDigit_X0 tyX0 tyX0_ok nmX0 hown hK hP hD hS 0 rfl rfl 5 (by decide) (hts _ (List.mem_of_getElem? (i := 1) rfl)) (fun _ h9 => h9) rfl (by decide +kernel) rfl rfl (Nat.le_of_ble_eq_true rfl) dX0_readDigit_33 (fun H locs hP hD hS => ?_)
    have hP : va_P (dC, dI) vwCl [(a_t, .inr (0, [.int v_t_inCommand, .int v_t_kind, .int v_t_letters, .int v_t_length, .int ((v_t_number * 10) + p1), .int (v_t_digits + 1)]))] H := hP
    have hD : va_D A [(a_t, .inr (0, [.int v_t_inCommand, .int v_t_kind, .int v_t_letters, .int v_t_length, .int ((v_t_number * 10) + p1), .int (v_t_digits + 1)]))] := hD
    refine lv_iconst (v := 1) hx hb dX0_readDigit_36 (by decide) ?_
    cases hm
    exact mu_iret hx hb hr rfl ⟨rfl, rfl⟩ hP hD hS hK [0] rfl (by decide) dX0_readDigit_37 hlocks
  · rw [if_pos c8] at hm
    refine lv_iconst (v := 0) hx hb dX0_readDigit_11 (by decide) ?_
    cases hm
    exact mu_iret hx hb hr rfl ⟨rfl, rfl⟩ hP hD hS hK [0] rfl (by decide) dX0_readDigit_12 hlocks
def mX0_read (v_t_inCommand : Int32) (v_t_kind : Int32) (v_t_letters : Int32) (v_t_length : Int32) (v_t_number : Int32) (v_t_digits : Int32) (p1 : Int32) : Option (Int32 × Int32 × Int32 × Int32 × Int32 × Int32 × Int32) :=
  (if v_t_inCommand = 0 then
    ((mX0_begin p1).bind fun (r9, v_t_inCommand_9, v_t_kind_9, v_t_letters_9, v_t_length_9, v_t_number_9, v_t_digits_9) =>
    some (r9, v_t_inCommand_9, v_t_kind_9, v_t_letters_9, v_t_length_9, v_t_number_9, v_t_digits_9))
  else
    (if p1 = 59 then
      some ((if (if (mX0_isWhole v_t_kind v_t_length v_t_digits) = 0 then (1 : Int32) else 0) = 0 then (1 : Int32) else 0), (if (mX0_isWhole v_t_kind v_t_length v_t_digits) = 0 then (1 : Int32) else 0), v_t_kind, v_t_letters, v_t_length, v_t_number, v_t_digits)
    else
      (if p1 < 97 then
        (if p1 < 48 then
          some (0, v_t_inCommand, v_t_kind, v_t_letters, v_t_length, v_t_number, v_t_digits)
        else
          (if 57 < p1 then
            some (0, v_t_inCommand, v_t_kind, v_t_letters, v_t_length, v_t_number, v_t_digits)
          else
            ((mX0_readDigit v_t_kind v_t_length v_t_number v_t_digits (p1 - 48)).bind fun (r86, v_t_number_86, v_t_digits_86) =>
            some ((if r86 = 0 then (0 : Int32) else 1), v_t_inCommand, v_t_kind, v_t_letters, v_t_length, v_t_number_86, v_t_digits_86))))
      else
        (if 104 < p1 then
          (if p1 < 48 then
            some (0, v_t_inCommand, v_t_kind, v_t_letters, v_t_length, v_t_number, v_t_digits)
          else
            (if 57 < p1 then
              some (0, v_t_inCommand, v_t_kind, v_t_letters, v_t_length, v_t_number, v_t_digits)
            else
              ((mX0_readDigit v_t_kind v_t_length v_t_number v_t_digits (p1 - 48)).bind fun (r86, v_t_number_86, v_t_digits_86) =>
              some ((if r86 = 0 then (0 : Int32) else 1), v_t_inCommand, v_t_kind, v_t_letters, v_t_length, v_t_number_86, v_t_digits_86))))
        else
          ((mX0_readLetter v_t_kind v_t_letters v_t_length v_t_digits (p1 - 97)).bind fun (r65, v_t_letters_65, v_t_length_65) =>
          some (r65, v_t_inCommand, v_t_kind, v_t_letters_65, v_t_length_65, v_t_number, v_t_digits))))))
abbrev rmX0_read : Room := { frames := 2, cells := 0, slots := 0, locals := 41 }
abbrev wX0_read (cA : ClassId) (a_t : Nat) (v_t_inCommand v_t_kind v_t_letters v_t_length v_t_number v_t_digits : Int32) : va_W := [(a_t, .inr (0, [.int v_t_inCommand, .int v_t_kind, .int v_t_letters, .int v_t_length, .int v_t_number, .int v_t_digits]))]
theorem iX0_read_X0 : ∀ w ∈ wsX00, w ∈ wsX0_read := (fun _ h => List.mem_cons_of_mem _ (List.mem_append_right _ h))
theorem hdX0_read : yX0_read.cls = RX0 ∧ yX0_read.cls ≠ "java/lang/invoke/MethodHandle" ∧ yX0_read.cls ≠ "java/lang/invoke/VarHandle" ∧ (parseMethodDescriptor yX0_read.desc).map (fun d => d.parameters.length) = some 1 := by decide +kernel
set_option maxHeartbeats 4000000 in
set_option maxRecDepth 100000 in
theorem kX0_read (l : Launch) (dC : Nat → ClassId) (dI : Nat → Nat → Nat) (cA : ClassId) (a_t : Nat) (v_t_inCommand v_t_kind v_t_letters v_t_length v_t_number v_t_digits p1 : Int32) (sz : Nat) (r o_v_t_inCommand o_v_t_kind o_v_t_letters o_v_t_length o_v_t_number o_v_t_digits : Int32) (hm : (mX0_read v_t_inCommand v_t_kind v_t_letters v_t_length v_t_number v_t_digits p1) = some (r, o_v_t_inCommand, o_v_t_kind, o_v_t_letters, o_v_t_length, o_v_t_number, o_v_t_digits)) : Met l yX0_read wsX0_read rmX0_read (mpc (dC, dI) [(cA, .int)] (wX0_read cA a_t v_t_inCommand v_t_kind v_t_letters v_t_length v_t_number v_t_digits) [.ref a_t, .int p1] sz) (mqi (dC, dI) [(cA, .int)] (va_A (wX0_read cA a_t v_t_inCommand v_t_kind v_t_letters v_t_length v_t_number v_t_digits) sz) (wX0_read cA a_t o_v_t_inCommand o_v_t_kind o_v_t_letters o_v_t_length o_v_t_number o_v_t_digits) (fun x => x = r ∧ nbr r)) 0 0 (va_A (wX0_read cA a_t v_t_inCommand v_t_kind v_t_letters v_t_length v_t_number v_t_digits) sz) := by
  unfold mX0_read at hm
  refine mu_ofW (Qc := fun A => mqi (dC, dI) [(cA, .int)] A (wX0_read cA a_t o_v_t_inCommand o_v_t_kind o_v_t_letters o_v_t_length o_v_t_number o_v_t_digits) (fun x => x = r ∧ nbr r)) (cc := cX0_read) (maxL := 2) (ret := (some .boolean)) (own := RX0) (by decide) rfl rfl (Nat.le_of_ble_eq_true rfl) ?_
  intro p e s m args below meth c hx hb hr hts hown hlocks hml hin A hA hP hD hS hK ls hl
  have hl : lv_has ls 2 [(0, .ref a_t), (1, .int p1)] := hl
  have hP : va_P (dC, dI) vwCl [(a_t, .inr (0, [.int v_t_inCommand, .int v_t_kind, .int v_t_letters, .int v_t_length, .int v_t_number, .int v_t_digits]))] s.heap := hP
  have hD : va_D A [(a_t, .inr (0, [.int v_t_inCommand, .int v_t_kind, .int v_t_letters, .int v_t_length, .int v_t_number, .int v_t_digits]))] := hD
  refine lv_aload_n hx hb dX0_read_0 rfl (lv_at hl 0 rfl) ?_
  refine va_get (D := (dC, dI)) (ci := 0) (C := RX0) (T := TX0) (N := 6) hx hb hts iX0_read_X0 hown hK hP 0 rfl rfl 0 (by decide) (hts _ (List.mem_of_getElem? (i := 1) rfl)) (fun _ h9 => h9) rfl dX0_read_1 ?_
  refine lv_if_ne (tgt := 13) hx hb dX0_read_4 (by decide) (fun c4 => ?_) (fun c4 => ?_)
  · rw [if_neg c4] at hm
    refine lv_iload_n hx hb dX0_read_13 rfl (lv_at hl 1 rfl) ?_
    refine lv_bipush (v := 59) hx hb dX0_read_14 (by decide) ?_
    refine lv_icmp_ne (tgt := 48) hx hb dX0_read_16 (by decide) (fun c16 => ?_) (fun c16 => ?_)
    · rw [if_neg c16] at hm
      refine lv_iload_n hx hb dX0_read_48 rfl (lv_at hl 1 rfl) ?_
      refine lv_bipush (v := 97) hx hb dX0_read_49 (by decide) ?_
      refine lv_icmp_lt (tgt := 69) hx hb dX0_read_51 (by decide) (fun c51 => ?_) (fun c51 => ?_)
      · rw [if_pos c51] at hm
        refine lv_iload_n hx hb dX0_read_69 rfl (lv_at hl 1 rfl) ?_
        refine lv_bipush (v := 48) hx hb dX0_read_70 (by decide) ?_
        refine lv_icmp_lt (tgt := 96) hx hb dX0_read_72 (by decide) (fun c72 => ?_) (fun c72 => ?_)
        · rw [if_pos c72] at hm
          refine lv_iconst (v := 0) hx hb dX0_read_96 (by decide) ?_
          cases hm
          exact mu_iret hx hb hr rfl ⟨rfl, rfl⟩ hP hD hS hK [0] rfl (by decide) dX0_read_97 hlocks
        · rw [if_neg c72] at hm
          refine lv_iload_n hx hb dX0_read_75 rfl (lv_at hl 1 rfl) ?_
          refine lv_bipush (v := 57) hx hb dX0_read_76 (by decide) ?_
          refine lv_icmp_gt (tgt := 96) hx hb dX0_read_78 (by decide) (fun c78 => ?_) (fun c78 => ?_)
          · rw [if_pos c78] at hm
            refine lv_iconst (v := 0) hx hb dX0_read_96 (by decide) ?_
            cases hm
            exact mu_iret hx hb hr rfl ⟨rfl, rfl⟩ hP hD hS hK [0] rfl (by decide) dX0_read_97 hlocks
          · rw [if_neg c78] at hm
            refine lv_aload_n hx hb dX0_read_81 rfl (lv_at hl 0 rfl) ?_
            refine lv_iload_n hx hb dX0_read_82 rfl (lv_at hl 1 rfl) ?_
            refine lv_bipush (v := 48) hx hb dX0_read_83 (by decide) ?_
            refine lv_isub hx hb dX0_read_85 ?_
            obtain ⟨⟨r86, v_t_number_86, v_t_digits_86⟩, e86, hm⟩ := bs hm
            try dsimp only at hm
            refine mu_callVz (wr := []) ⟨hx, hb, hml, hown, hts⟩ (kX0_readDigit l dC dI cA a_t v_t_inCommand v_t_kind v_t_letters v_t_length v_t_number v_t_digits (p1 - 48) _ r86 v_t_number_86 v_t_digits_86 e86) (cwV 1 hts gX0_read_X0_readDigit rfl rfl rfl hdX0_readDigit ⟨Nat.le_of_ble_eq_true rfl, Nat.le_of_ble_eq_true rfl⟩) hP hD hS hA hK [0] [] rfl rfl rfl rfl (by decide) rfl rfl rfl hl.1 rfl (Nat.le_of_ble_eq_true rfl) dX0_read_86 ⟨Nat.zero_le _, Nat.zero_le _⟩ (fun hb86 H locs hP hD hS => ?_)
            have hP : va_P (dC, dI) vwCl [(a_t, .inr (0, [.int v_t_inCommand, .int v_t_kind, .int v_t_letters, .int v_t_length, .int v_t_number_86, .int v_t_digits_86]))] H := hP
            have hD : va_D A [(a_t, .inr (0, [.int v_t_inCommand, .int v_t_kind, .int v_t_letters, .int v_t_length, .int v_t_number_86, .int v_t_digits_86]))] := hD
            refine lv_if_eq (tgt := 96) hx hb dX0_read_89 (by decide) (fun c89 => ?_) (fun c89 => ?_)
            · try simp only [if_pos c89] at hm
              refine lv_iconst (v := 0) hx hb dX0_read_96 (by decide) ?_
              cases hm
              exact mu_iret hx hb hr rfl ⟨rfl, rfl⟩ hP hD hS hK [0] rfl (by decide) dX0_read_97 hlocks
            · try simp only [if_neg c89] at hm
              refine lv_iconst (v := 1) hx hb dX0_read_92 (by decide) ?_
              refine lv_goto (tgt := 97) hx hb dX0_read_93 (by decide) ?_
              cases hm
              exact mu_iret hx hb hr rfl ⟨rfl, rfl⟩ hP hD hS hK [0] rfl (by decide) dX0_read_97 hlocks
      · rw [if_neg c51] at hm
        refine lv_iload_n hx hb dX0_read_54 rfl (lv_at hl 1 rfl) ?_
        refine lv_bipush (v := 104) hx hb dX0_read_55 (by decide) ?_
        refine lv_icmp_gt (tgt := 69) hx hb dX0_read_57 (by decide) (fun c57 => ?_) (fun c57 => ?_)
        · rw [if_pos c57] at hm
          refine lv_iload_n hx hb dX0_read_69 rfl (lv_at hl 1 rfl) ?_
          refine lv_bipush (v := 48) hx hb dX0_read_70 (by decide) ?_
          refine lv_icmp_lt (tgt := 96) hx hb dX0_read_72 (by decide) (fun c72 => ?_) (fun c72 => ?_)
          · rw [if_pos c72] at hm
            refine lv_iconst (v := 0) hx hb dX0_read_96 (by decide) ?_
            cases hm
            exact mu_iret hx hb hr rfl ⟨rfl, rfl⟩ hP hD hS hK [0] rfl (by decide) dX0_read_97 hlocks
          · rw [if_neg c72] at hm
            refine lv_iload_n hx hb dX0_read_75 rfl (lv_at hl 1 rfl) ?_
            refine lv_bipush (v := 57) hx hb dX0_read_76 (by decide) ?_
            refine lv_icmp_gt (tgt := 96) hx hb dX0_read_78 (by decide) (fun c78 => ?_) (fun c78 => ?_)
            · rw [if_pos c78] at hm
              refine lv_iconst (v := 0) hx hb dX0_read_96 (by decide) ?_
              cases hm
              exact mu_iret hx hb hr rfl ⟨rfl, rfl⟩ hP hD hS hK [0] rfl (by decide) dX0_read_97 hlocks
            · rw [if_neg c78] at hm
              refine lv_aload_n hx hb dX0_read_81 rfl (lv_at hl 0 rfl) ?_
              refine lv_iload_n hx hb dX0_read_82 rfl (lv_at hl 1 rfl) ?_
              refine lv_bipush (v := 48) hx hb dX0_read_83 (by decide) ?_
              refine lv_isub hx hb dX0_read_85 ?_
              obtain ⟨⟨r86, v_t_number_86, v_t_digits_86⟩, e86, hm⟩ := bs hm
              try dsimp only at hm
              refine mu_callVz (wr := []) ⟨hx, hb, hml, hown, hts⟩ (kX0_readDigit l dC dI cA a_t v_t_inCommand v_t_kind v_t_letters v_t_length v_t_number v_t_digits (p1 - 48) _ r86 v_t_number_86 v_t_digits_86 e86) (cwV 1 hts gX0_read_X0_readDigit rfl rfl rfl hdX0_readDigit ⟨Nat.le_of_ble_eq_true rfl, Nat.le_of_ble_eq_true rfl⟩) hP hD hS hA hK [0] [] rfl rfl rfl rfl (by decide) rfl rfl rfl hl.1 rfl (Nat.le_of_ble_eq_true rfl) dX0_read_86 ⟨Nat.zero_le _, Nat.zero_le _⟩ (fun hb86 H locs hP hD hS => ?_)
              have hP : va_P (dC, dI) vwCl [(a_t, .inr (0, [.int v_t_inCommand, .int v_t_kind, .int v_t_letters, .int v_t_length, .int v_t_number_86, .int v_t_digits_86]))] H := hP
              have hD : va_D A [(a_t, .inr (0, [.int v_t_inCommand, .int v_t_kind, .int v_t_letters, .int v_t_length, .int v_t_number_86, .int v_t_digits_86]))] := hD
              refine lv_if_eq (tgt := 96) hx hb dX0_read_89 (by decide) (fun c89 => ?_) (fun c89 => ?_)
              · try simp only [if_pos c89] at hm
                refine lv_iconst (v := 0) hx hb dX0_read_96 (by decide) ?_
                cases hm
                exact mu_iret hx hb hr rfl ⟨rfl, rfl⟩ hP hD hS hK [0] rfl (by decide) dX0_read_97 hlocks
              · try simp only [if_neg c89] at hm
                refine lv_iconst (v := 1) hx hb dX0_read_92 (by decide) ?_
                refine lv_goto (tgt := 97) hx hb dX0_read_93 (by decide) ?_
                cases hm
                exact mu_iret hx hb hr rfl ⟨rfl, rfl⟩ hP hD hS hK [0] rfl (by decide) dX0_read_97 hlocks
        · rw [if_neg c57] at hm
          refine lv_aload_n hx hb dX0_read_60 rfl (lv_at hl 0 rfl) ?_
          refine lv_iload_n hx hb dX0_read_61 rfl (lv_at hl 1 rfl) ?_
          refine lv_bipush (v := 97) hx hb dX0_read_62 (by decide) ?_
          refine lv_isub hx hb dX0_read_64 ?_
          obtain ⟨⟨r65, v_t_letters_65, v_t_length_65⟩, e65, hm⟩ := bs hm
          try dsimp only at hm
          refine mu_callVz (wr := []) ⟨hx, hb, hml, hown, hts⟩ (kX0_readLetter l dC dI cA a_t v_t_inCommand v_t_kind v_t_letters v_t_length v_t_number v_t_digits (p1 - 97) _ r65 v_t_letters_65 v_t_length_65 e65) (cwV 1 hts gX0_read_X0_readLetter rfl rfl rfl hdX0_readLetter ⟨Nat.le_of_ble_eq_true rfl, Nat.le_of_ble_eq_true rfl⟩) hP hD hS hA hK [0] [] rfl rfl rfl rfl (by decide) rfl rfl rfl hl.1 rfl (Nat.le_of_ble_eq_true rfl) dX0_read_65 ⟨Nat.zero_le _, Nat.zero_le _⟩ (fun hb65 H locs hP hD hS => ?_)
          have hP : va_P (dC, dI) vwCl [(a_t, .inr (0, [.int v_t_inCommand, .int v_t_kind, .int v_t_letters_65, .int v_t_length_65, .int v_t_number, .int v_t_digits]))] H := hP
          have hD : va_D A [(a_t, .inr (0, [.int v_t_inCommand, .int v_t_kind, .int v_t_letters_65, .int v_t_length_65, .int v_t_number, .int v_t_digits]))] := hD
          cases hm
          exact mu_iret hx hb hr hb65 ⟨rfl, hb65⟩ hP hD hS hK [0] rfl (by decide) dX0_read_68 hlocks
    · rw [if_pos c16] at hm
      refine lv_aload_n hx hb dX0_read_19 rfl (lv_at hl 0 rfl) ?_
      refine lv_aload_n hx hb dX0_read_20 rfl (lv_at hl 0 rfl) ?_
      refine ro_callVz ⟨hx, hb, hml, hown, hts⟩ (kX0_isWhole l dC dI cA a_t v_t_inCommand v_t_kind v_t_letters v_t_length v_t_number v_t_digits) (cwV 0 hts gX0_read_X0_isWhole rfl rfl rfl hdX0_isWhole ⟨Nat.le_of_ble_eq_true rfl, Nat.le_of_ble_eq_true rfl⟩) (hP.sub [0] rfl) hK rfl rfl rfl hl.1 rfl (Nat.le_of_ble_eq_true rfl) dX0_read_21 ⟨Nat.zero_le _, Nat.zero_le _⟩ (fun hb21 => ?_)
      refine lv_if_ne (tgt := 31) hx hb dX0_read_24 (by decide) (fun c24 => ?_) (fun c24 => ?_)
      · try simp only [if_neg c24] at hm
        refine lv_iconst (v := 0) hx hb dX0_read_31 (by decide) ?_
        refine va_put (D := (dC, dI)) (ci := 0) (C := RX0) (T := TX0) (N := 6) (ty := .boolean) hx hb hts iX0_read_X0 tyX0 tyX0_ok nmX0 hown hK hP hD hS 0 rfl rfl 0 (by decide) (hts _ (List.mem_of_getElem? (i := 1) rfl)) (fun _ h9 => h9) rfl (by decide +kernel) rfl rfl (Nat.le_of_ble_eq_true rfl) dX0_read_32 (fun H locs hP hD hS => ?_)
        have hP : va_P (dC, dI) vwCl [(a_t, .inr (0, [.int 0, .int v_t_kind, .int v_t_letters, .int v_t_length, .int v_t_number, .int v_t_digits]))] H := hP
        have hD : va_D A [(a_t, .inr (0, [.int 0, .int v_t_kind, .int v_t_letters, .int v_t_length, .int v_t_number, .int v_t_digits]))] := hD
        refine lv_aload_n hx hb dX0_read_35 rfl (lv_at hl 0 rfl) ?_
        refine va_get (D := (dC, dI)) (ci := 0) (C := RX0) (T := TX0) (N := 6) hx hb hts iX0_read_X0 hown hK hP 0 rfl rfl 0 (by decide) (hts _ (List.mem_of_getElem? (i := 1) rfl)) (fun _ h9 => h9) rfl dX0_read_36 ?_
        refine lv_if_ne (tgt := 46) hx hb dX0_read_39 (by decide) (fun c39 => absurd c39 (by decide)) (fun c39 => ?_)
        try rw [if_pos (show (0 : Int32) = 0 by decide)] at hm
        refine lv_iconst (v := 1) hx hb dX0_read_42 (by decide) ?_
        refine lv_goto (tgt := 47) hx hb dX0_read_43 (by decide) ?_
        cases hm
        exact mu_iret hx hb hr rfl ⟨rfl, rfl⟩ hP hD hS hK [0] rfl (by decide) dX0_read_47 hlocks
      · try simp only [if_pos c24] at hm
        refine lv_iconst (v := 1) hx hb dX0_read_27 (by decide) ?_
        refine lv_goto (tgt := 32) hx hb dX0_read_28 (by decide) ?_
        refine va_put (D := (dC, dI)) (ci := 0) (C := RX0) (T := TX0) (N := 6) (ty := .boolean) hx hb hts iX0_read_X0 tyX0 tyX0_ok nmX0 hown hK hP hD hS 0 rfl rfl 0 (by decide) (hts _ (List.mem_of_getElem? (i := 1) rfl)) (fun _ h9 => h9) rfl (by decide +kernel) rfl rfl (Nat.le_of_ble_eq_true rfl) dX0_read_32 (fun H locs hP hD hS => ?_)
        have hP : va_P (dC, dI) vwCl [(a_t, .inr (0, [.int 1, .int v_t_kind, .int v_t_letters, .int v_t_length, .int v_t_number, .int v_t_digits]))] H := hP
        have hD : va_D A [(a_t, .inr (0, [.int 1, .int v_t_kind, .int v_t_letters, .int v_t_length, .int v_t_number, .int v_t_digits]))] := hD
        refine lv_aload_n hx hb dX0_read_35 rfl (lv_at hl 0 rfl) ?_
        refine va_get (D := (dC, dI)) (ci := 0) (C := RX0) (T := TX0) (N := 6) hx hb hts iX0_read_X0 hown hK hP 0 rfl rfl 0 (by decide) (hts _ (List.mem_of_getElem? (i := 1) rfl)) (fun _ h9 => h9) rfl dX0_read_36 ?_
        refine lv_if_ne (tgt := 46) hx hb dX0_read_39 (by decide) (fun c39 => ?_) (fun c39 => absurd c39 (by decide))
        try rw [if_neg (show ¬ ((1 : Int32) = 0) by decide)] at hm
        refine lv_iconst (v := 0) hx hb dX0_read_46 (by decide) ?_
        cases hm
        exact mu_iret hx hb hr rfl ⟨rfl, rfl⟩ hP hD hS hK [0] rfl (by decide) dX0_read_47 hlocks
  · rw [if_pos c4] at hm
    refine lv_aload_n hx hb dX0_read_7 rfl (lv_at hl 0 rfl) ?_
    refine lv_iload_n hx hb dX0_read_8 rfl (lv_at hl 1 rfl) ?_
    obtain ⟨⟨r9, v_t_inCommand_9, v_t_kind_9, v_t_letters_9, v_t_length_9, v_t_number_9, v_t_digits_9⟩, e9, hm⟩ := bs hm
    try dsimp only at hm
    refine mu_callVz (wr := []) ⟨hx, hb, hml, hown, hts⟩ (kX0_begin l dC dI cA a_t v_t_inCommand v_t_kind v_t_letters v_t_length v_t_number v_t_digits p1 _ r9 v_t_inCommand_9 v_t_kind_9 v_t_letters_9 v_t_length_9 v_t_number_9 v_t_digits_9 e9) (cwV 1 hts gX0_read_X0_begin rfl rfl rfl hdX0_begin ⟨Nat.le_of_ble_eq_true rfl, Nat.le_of_ble_eq_true rfl⟩) hP hD hS hA hK [0] [] rfl rfl rfl rfl (by decide) rfl rfl rfl hl.1 rfl (Nat.le_of_ble_eq_true rfl) dX0_read_9 ⟨Nat.zero_le _, Nat.zero_le _⟩ (fun hb9 H locs hP hD hS => ?_)
    have hP : va_P (dC, dI) vwCl [(a_t, .inr (0, [.int v_t_inCommand_9, .int v_t_kind_9, .int v_t_letters_9, .int v_t_length_9, .int v_t_number_9, .int v_t_digits_9]))] H := hP
    have hD : va_D A [(a_t, .inr (0, [.int v_t_inCommand_9, .int v_t_kind_9, .int v_t_letters_9, .int v_t_length_9, .int v_t_number_9, .int v_t_digits_9]))] := hD
    cases hm
    exact mu_iret hx hb hr hb9 ⟨rfl, hb9⟩ hP hD hS hK [0] rfl (by decide) dX0_read_12 hlocks
def mX1_length (v_t_length : Int32) : Int32 :=
  v_t_length
abbrev rmX1_length : Room := { frames := 0, cells := 0, slots := 0, locals := 0 }
abbrev wX1_length (cA : ClassId) (a_t a_t_signs : Nat) (v_t_length : Int32) : va_W := [(a_t, .inr (1, [.ref a_t_signs, .int v_t_length]))]
theorem iX1_length_X1 : ∀ w ∈ wsX10, w ∈ wsX1_length := (fun _ h => List.mem_cons_of_mem _ (List.mem_append_right _ h))
theorem hdX1_length : yX1_length.cls = RX1 ∧ yX1_length.cls ≠ "java/lang/invoke/MethodHandle" ∧ yX1_length.cls ≠ "java/lang/invoke/VarHandle" ∧ (parseMethodDescriptor yX1_length.desc).map (fun d => d.parameters.length) = some 0 := by decide +kernel
set_option maxHeartbeats 4000000 in
set_option maxRecDepth 100000 in
theorem kX1_length (l : Launch) (dC : Nat → ClassId) (dI : Nat → Nat → Nat) (cA : ClassId) (a_t a_t_signs : Nat) (v_t_length : Int32) : Met l yX1_length wsX1_length rmX1_length (rpc (dC, dI) [(cA, .int)] (wX1_length cA a_t a_t_signs v_t_length) [.ref a_t]) (vp_Si (fun x => x = (mX1_length v_t_length))) 0 0 (fun _ => False) := by
  obtain ⟨r, hm⟩ : ∃ r, mX1_length v_t_length = r := ⟨_, rfl⟩
  rw [hm]
  unfold mX1_length at hm
  refine ro_ofW (cc := cX1_length) (maxL := 1) (ret := (some .int)) (own := RX1) (by decide) rfl rfl (Nat.le_of_ble_eq_true rfl) ?_
  intro p e s m args below meth c hx hb hr hts hown hlocks hml hP hK ls hl
  have hl : lv_has ls 1 [(0, .ref a_t)] := hl
  have hP : va_P (dC, dI) vwCl [(a_t, .inr (1, [.ref a_t_signs, .int v_t_length]))] s.heap := hP
  refine lv_aload_n hx hb dX1_length_0 rfl (lv_at hl 0 rfl) ?_
  refine va_get (D := (dC, dI)) (ci := 1) (C := RX1) (T := TX1) (N := 2) hx hb hts iX1_length_X1 hown hK hP 0 rfl rfl 1 (by decide) (hts _ (List.mem_of_getElem? (i := 1) rfl)) (fun _ h9 => h9) rfl dX1_length_1 ?_
  subst hm
  exact ro_iret hx hb hr rfl rfl dX1_length_4 hlocks
def mX1_signAt (f_t_signs_cells : Nat → Int32) (p1 : Int32) : Int32 :=
  (mX3_at 120 f_t_signs_cells p1)
abbrev rmX1_signAt : Room := { frames := 1, cells := 0, slots := 0, locals := 21 }
abbrev wX1_signAt (cA : ClassId) (a_t a_t_signs a_t_signs_cells : Nat) (v_t_length : Int32) (f_t_signs_cells : Nat → Int32) : va_W := [(a_t, .inr (1, [.ref a_t_signs, .int v_t_length])), (a_t_signs, .inr (2, [.ref a_t_signs_cells])), (a_t_signs_cells, .inl (cA, 120, .inl f_t_signs_cells))]
theorem iX1_signAt_X1 : ∀ w ∈ wsX10, w ∈ wsX1_signAt := (fun _ h => List.mem_cons_of_mem _ (List.mem_append_left _ (List.mem_append_right _ h)))
theorem hdX1_signAt : yX1_signAt.cls = RX1 ∧ yX1_signAt.cls ≠ "java/lang/invoke/MethodHandle" ∧ yX1_signAt.cls ≠ "java/lang/invoke/VarHandle" ∧ (parseMethodDescriptor yX1_signAt.desc).map (fun d => d.parameters.length) = some 1 := by decide +kernel
set_option maxHeartbeats 4000000 in
set_option maxRecDepth 100000 in
theorem kX1_signAt (l : Launch) (dC : Nat → ClassId) (dI : Nat → Nat → Nat) (cA : ClassId) (a_t a_t_signs a_t_signs_cells : Nat) (v_t_length : Int32) (f_t_signs_cells : Nat → Int32) (p1 : Int32) : Met l yX1_signAt wsX1_signAt rmX1_signAt (rpc (dC, dI) [(cA, .int)] (wX1_signAt cA a_t a_t_signs a_t_signs_cells v_t_length f_t_signs_cells) [.ref a_t, .int p1]) (vp_Si (fun x => x = (mX1_signAt f_t_signs_cells p1))) 0 0 (fun _ => False) := by
  obtain ⟨r, hm⟩ : ∃ r, mX1_signAt f_t_signs_cells p1 = r := ⟨_, rfl⟩
  rw [hm]
  unfold mX1_signAt at hm
  refine ro_ofW (cc := cX1_signAt) (maxL := 2) (ret := (some .int)) (own := RX1) (by decide) rfl rfl (Nat.le_of_ble_eq_true rfl) ?_
  intro p e s m args below meth c hx hb hr hts hown hlocks hml hP hK ls hl
  have hl : lv_has ls 2 [(0, .ref a_t), (1, .int p1)] := hl
  have hP : va_P (dC, dI) vwCl [(a_t, .inr (1, [.ref a_t_signs, .int v_t_length])), (a_t_signs, .inr (2, [.ref a_t_signs_cells])), (a_t_signs_cells, .inl (cA, 120, .inl f_t_signs_cells))] s.heap := hP
  refine lv_aload_n hx hb dX1_signAt_0 rfl (lv_at hl 0 rfl) ?_
  refine va_get (D := (dC, dI)) (ci := 1) (C := RX1) (T := TX1) (N := 2) hx hb hts iX1_signAt_X1 hown hK hP 0 rfl rfl 0 (by decide) (hts _ (List.mem_of_getElem? (i := 1) rfl)) (fun _ h9 => h9) rfl dX1_signAt_1 ?_
  refine lv_iload_n hx hb dX1_signAt_4 rfl (lv_at hl 1 rfl) ?_
  refine ro_callVe ⟨hx, hb, hml, hown, hts⟩ (kX3_at l dC dI cA a_t_signs a_t_signs_cells 120 (by decide) f_t_signs_cells p1) (cwV 1 hts gX1_signAt_X3_at rfl rfl rfl hdX3_at ⟨Nat.le_of_ble_eq_true rfl, Nat.le_of_ble_eq_true rfl⟩) (hP.sub [1, 2] rfl) hK rfl rfl rfl hl.1 rfl (Nat.le_of_ble_eq_true rfl) dX1_signAt_5 ⟨Nat.zero_le _, Nat.zero_le _⟩ ?_
  subst hm
  exact ro_iret hx hb hr rfl rfl dX1_signAt_8 hlocks
def mX1_append (v_t_length : Int32) (f_t_signs_cells : Nat → Int32) (p1 : Int32) : Option (Int32 × Int32 × (Nat → Int32)) :=
  ((mX3_put 120 f_t_signs_cells v_t_length p1).bind fun f_t_signs_cells_9 =>
  some ((v_t_length + 1), (v_t_length + 1), f_t_signs_cells_9))
abbrev rmX1_append : Room := { frames := 1, cells := 0, slots := 0, locals := 22 }
abbrev wX1_append (cA : ClassId) (a_t a_t_signs a_t_signs_cells : Nat) (v_t_length : Int32) (f_t_signs_cells : Nat → Int32) : va_W := [(a_t, .inr (1, [.ref a_t_signs, .int v_t_length])), (a_t_signs, .inr (2, [.ref a_t_signs_cells])), (a_t_signs_cells, .inl (cA, 120, .inl f_t_signs_cells))]
theorem iX1_append_X1 : ∀ w ∈ wsX10, w ∈ wsX1_append := (fun _ h => List.mem_cons_of_mem _ (List.mem_append_left _ (List.mem_append_right _ h)))
theorem hdX1_append : yX1_append.cls = RX1 ∧ yX1_append.cls ≠ "java/lang/invoke/MethodHandle" ∧ yX1_append.cls ≠ "java/lang/invoke/VarHandle" ∧ (parseMethodDescriptor yX1_append.desc).map (fun d => d.parameters.length) = some 1 := by decide +kernel
set_option maxHeartbeats 4000000 in
set_option maxRecDepth 100000 in
theorem kX1_append (l : Launch) (dC : Nat → ClassId) (dI : Nat → Nat → Nat) (cA : ClassId) (a_t a_t_signs a_t_signs_cells : Nat) (v_t_length : Int32) (f_t_signs_cells : Nat → Int32) (p1 : Int32) (sz : Nat) (r o_v_t_length : Int32) (o_f_t_signs_cells : Nat → Int32) (hm : (mX1_append v_t_length f_t_signs_cells p1) = some (r, o_v_t_length, o_f_t_signs_cells)) : Met l yX1_append wsX1_append rmX1_append (mpc (dC, dI) [(cA, .int)] (wX1_append cA a_t a_t_signs a_t_signs_cells v_t_length f_t_signs_cells) [.ref a_t, .int p1] sz) (mqi (dC, dI) [(cA, .int)] (va_A (wX1_append cA a_t a_t_signs a_t_signs_cells v_t_length f_t_signs_cells) sz) (wX1_append cA a_t a_t_signs a_t_signs_cells o_v_t_length o_f_t_signs_cells) (fun x => x = r)) 0 0 (va_A (wX1_append cA a_t a_t_signs a_t_signs_cells v_t_length f_t_signs_cells) sz) := by
  unfold mX1_append at hm
  refine mu_ofW (Qc := fun A => mqi (dC, dI) [(cA, .int)] A (wX1_append cA a_t a_t_signs a_t_signs_cells o_v_t_length o_f_t_signs_cells) (fun x => x = r)) (cc := cX1_append) (maxL := 2) (ret := (some .int)) (own := RX1) (by decide) rfl rfl (Nat.le_of_ble_eq_true rfl) ?_
  intro p e s m args below meth c hx hb hr hts hown hlocks hml hin A hA hP hD hS hK ls hl
  have hl : lv_has ls 2 [(0, .ref a_t), (1, .int p1)] := hl
  have hP : va_P (dC, dI) vwCl [(a_t, .inr (1, [.ref a_t_signs, .int v_t_length])), (a_t_signs, .inr (2, [.ref a_t_signs_cells])), (a_t_signs_cells, .inl (cA, 120, .inl f_t_signs_cells))] s.heap := hP
  have hD : va_D A [(a_t, .inr (1, [.ref a_t_signs, .int v_t_length])), (a_t_signs, .inr (2, [.ref a_t_signs_cells])), (a_t_signs_cells, .inl (cA, 120, .inl f_t_signs_cells))] := hD
  refine lv_aload_n hx hb dX1_append_0 rfl (lv_at hl 0 rfl) ?_
  refine va_get (D := (dC, dI)) (ci := 1) (C := RX1) (T := TX1) (N := 2) hx hb hts iX1_append_X1 hown hK hP 0 rfl rfl 0 (by decide) (hts _ (List.mem_of_getElem? (i := 1) rfl)) (fun _ h9 => h9) rfl dX1_append_1 ?_
  refine lv_aload_n hx hb dX1_append_4 rfl (lv_at hl 0 rfl) ?_
  refine va_get (D := (dC, dI)) (ci := 1) (C := RX1) (T := TX1) (N := 2) hx hb hts iX1_append_X1 hown hK hP 0 rfl rfl 1 (by decide) (hts _ (List.mem_of_getElem? (i := 2) rfl)) (fun _ h9 => h9) rfl dX1_append_5 ?_
  refine lv_iload_n hx hb dX1_append_8 rfl (lv_at hl 1 rfl) ?_
  obtain ⟨f_t_signs_cells_9, e9, hm⟩ := bs hm
  try dsimp only at hm
  refine mu_callVv (wr := [(a_t, .inr (1, [.ref a_t_signs, .int v_t_length]))]) ⟨hx, hb, hml, hown, hts⟩ (kX3_put l dC dI cA a_t_signs a_t_signs_cells 120 (by decide) f_t_signs_cells v_t_length p1 _ f_t_signs_cells_9 e9) (cwV 2 hts gX1_append_X3_put rfl rfl rfl hdX3_put ⟨Nat.le_of_ble_eq_true rfl, Nat.le_of_ble_eq_true rfl⟩) hP hD hS hA hK [1, 2] [0] rfl rfl rfl rfl (by decide) rfl rfl rfl hl.1 rfl (Nat.le_of_ble_eq_true rfl) dX1_append_9 ⟨Nat.zero_le _, Nat.zero_le _⟩ (fun H locs hP hD hS => ?_)
  have hP : va_P (dC, dI) vwCl [(a_t, .inr (1, [.ref a_t_signs, .int v_t_length])), (a_t_signs, .inr (2, [.ref a_t_signs_cells])), (a_t_signs_cells, .inl (cA, 120, .inl f_t_signs_cells_9))] H := hP
  have hD : va_D A [(a_t, .inr (1, [.ref a_t_signs, .int v_t_length])), (a_t_signs, .inr (2, [.ref a_t_signs_cells])), (a_t_signs_cells, .inl (cA, 120, .inl f_t_signs_cells_9))] := hD
  refine lv_aload_n hx hb dX1_append_12 rfl (lv_at hl 0 rfl) ?_
  refine lv_dup hx hb dX1_append_13 rfl ?_
  refine va_get (D := (dC, dI)) (ci := 1) (C := RX1) (T := TX1) (N := 2) hx hb hts iX1_append_X1 hown hK hP 0 rfl rfl 1 (by decide) (hts _ (List.mem_of_getElem? (i := 2) rfl)) (fun _ h9 => h9) rfl dX1_append_14 ?_
  refine lv_iconst (v := 1) hx hb dX1_append_17 (by decide) ?_
  refine lv_iadd hx hb dX1_append_18 ?_
  refine va_put (D := (dC, dI)) (ci := 1) (C := RX1) (T := TX1) (N := 2) (ty := .int) hx hb hts iX1_append_X1 tyX1 tyX1_ok nmX1 hown hK hP hD hS 0 rfl rfl 1 (by decide) (hts _ (List.mem_of_getElem? (i := 2) rfl)) (fun _ h9 => h9) rfl (by decide +kernel) rfl rfl (Nat.le_of_ble_eq_true rfl) dX1_append_19 (fun H locs hP hD hS => ?_)
  have hP : va_P (dC, dI) vwCl [(a_t, .inr (1, [.ref a_t_signs, .int (v_t_length + 1)])), (a_t_signs, .inr (2, [.ref a_t_signs_cells])), (a_t_signs_cells, .inl (cA, 120, .inl f_t_signs_cells_9))] H := hP
  have hD : va_D A [(a_t, .inr (1, [.ref a_t_signs, .int (v_t_length + 1)])), (a_t_signs, .inr (2, [.ref a_t_signs_cells])), (a_t_signs_cells, .inl (cA, 120, .inl f_t_signs_cells_9))] := hD
  refine lv_aload_n hx hb dX1_append_22 rfl (lv_at hl 0 rfl) ?_
  refine va_get (D := (dC, dI)) (ci := 1) (C := RX1) (T := TX1) (N := 2) hx hb hts iX1_append_X1 hown hK hP 0 rfl rfl 1 (by decide) (hts _ (List.mem_of_getElem? (i := 2) rfl)) (fun _ h9 => h9) rfl dX1_append_23 ?_
  cases hm
  exact mu_iret hx hb hr rfl rfl hP hD hS hK [0, 1, 2] rfl (by decide) dX1_append_26 hlocks
def mX1_empty (v_t_length : Int32) : Option (Int32 × Int32) :=
  some (v_t_length, 0)
abbrev rmX1_empty : Room := { frames := 0, cells := 0, slots := 0, locals := 0 }
abbrev wX1_empty (cA : ClassId) (a_t a_t_signs : Nat) (v_t_length : Int32) : va_W := [(a_t, .inr (1, [.ref a_t_signs, .int v_t_length]))]
theorem iX1_empty_X1 : ∀ w ∈ wsX10, w ∈ wsX1_empty := (fun _ h => List.mem_cons_of_mem _ (List.mem_append_right _ h))
theorem hdX1_empty : yX1_empty.cls = RX1 ∧ yX1_empty.cls ≠ "java/lang/invoke/MethodHandle" ∧ yX1_empty.cls ≠ "java/lang/invoke/VarHandle" ∧ (parseMethodDescriptor yX1_empty.desc).map (fun d => d.parameters.length) = some 0 := by decide +kernel
set_option maxHeartbeats 4000000 in
set_option maxRecDepth 100000 in
theorem kX1_empty (l : Launch) (dC : Nat → ClassId) (dI : Nat → Nat → Nat) (cA : ClassId) (a_t a_t_signs : Nat) (v_t_length : Int32) (sz : Nat) (r o_v_t_length : Int32) (hm : (mX1_empty v_t_length) = some (r, o_v_t_length)) : Met l yX1_empty wsX1_empty rmX1_empty (mpc (dC, dI) [(cA, .int)] (wX1_empty cA a_t a_t_signs v_t_length) [.ref a_t] sz) (mqi (dC, dI) [(cA, .int)] (va_A (wX1_empty cA a_t a_t_signs v_t_length) sz) (wX1_empty cA a_t a_t_signs o_v_t_length) (fun x => x = r)) 0 0 (va_A (wX1_empty cA a_t a_t_signs v_t_length) sz) := by
  unfold mX1_empty at hm
  refine mu_ofW (Qc := fun A => mqi (dC, dI) [(cA, .int)] A (wX1_empty cA a_t a_t_signs o_v_t_length) (fun x => x = r)) (cc := cX1_empty) (maxL := 2) (ret := (some .int)) (own := RX1) (by decide) rfl rfl (Nat.le_of_ble_eq_true rfl) ?_
  intro p e s m args below meth c hx hb hr hts hown hlocks hml hin A hA hP hD hS hK ls hl
  have hl : lv_has ls 2 [(0, .ref a_t)] := hl
  have hP : va_P (dC, dI) vwCl [(a_t, .inr (1, [.ref a_t_signs, .int v_t_length]))] s.heap := hP
  have hD : va_D A [(a_t, .inr (1, [.ref a_t_signs, .int v_t_length]))] := hD
  refine lv_aload_n hx hb dX1_empty_0 rfl (lv_at hl 0 rfl) ?_
  refine va_get (D := (dC, dI)) (ci := 1) (C := RX1) (T := TX1) (N := 2) hx hb hts iX1_empty_X1 hown hK hP 0 rfl rfl 1 (by decide) (hts _ (List.mem_of_getElem? (i := 1) rfl)) (fun _ h9 => h9) rfl dX1_empty_1 ?_
  refine lv_istore_n (lv' := [(1, .int v_t_length), (0, .ref a_t)]) hx hb dX1_empty_4 rfl hl (by decide) rfl (fun ls hl => ?_)
  refine lv_aload_n hx hb dX1_empty_5 rfl (lv_at hl 1 rfl) ?_
  refine lv_iconst (v := 0) hx hb dX1_empty_6 (by decide) ?_
  refine va_put (D := (dC, dI)) (ci := 1) (C := RX1) (T := TX1) (N := 2) (ty := .int) hx hb hts iX1_empty_X1 tyX1 tyX1_ok nmX1 hown hK hP hD hS 0 rfl rfl 1 (by decide) (hts _ (List.mem_of_getElem? (i := 1) rfl)) (fun _ h9 => h9) rfl (by decide +kernel) rfl rfl (Nat.le_of_ble_eq_true rfl) dX1_empty_7 (fun H locs hP hD hS => ?_)
  have hP : va_P (dC, dI) vwCl [(a_t, .inr (1, [.ref a_t_signs, .int 0]))] H := hP
  have hD : va_D A [(a_t, .inr (1, [.ref a_t_signs, .int 0]))] := hD
  refine lv_iload_n hx hb dX1_empty_10 rfl (lv_at hl 0 rfl) ?_
  cases hm
  exact mu_iret hx hb hr rfl rfl hP hD hS hK [0] rfl (by decide) dX1_empty_11 hlocks
def mX7_isLimit (p0 : Int32) : Int32 :=
  (if p0 < 1 then 0 else (if 8 < p0 then (0 : Int32) else 1))
abbrev rmX7_isLimit : Room := { frames := 0, cells := 0, slots := 0, locals := 0 }
theorem hdX7_isLimit : yX7_isLimit.cls = RX7 ∧ yX7_isLimit.cls ≠ "java/lang/invoke/MethodHandle" ∧ yX7_isLimit.cls ≠ "java/lang/invoke/VarHandle" ∧ (parseMethodDescriptor yX7_isLimit.desc).map (fun d => d.parameters.length) = some 1 := by decide +kernel
set_option maxHeartbeats 4000000 in
set_option maxRecDepth 100000 in
theorem kX7_isLimit (l : Launch) (p0 : Int32) : Met l yX7_isLimit wsX7_isLimit rmX7_isLimit (spc [.int p0]) (vp_Si (fun x => x = (mX7_isLimit p0) ∧ nbr (mX7_isLimit p0))) 0 0 (fun _ => False) := by
  obtain ⟨r, hm⟩ : ∃ r, mX7_isLimit p0 = r := ⟨_, rfl⟩
  rw [hm]
  unfold mX7_isLimit at hm
  refine sp_ofW (cc := cX7_isLimit) (maxL := 1) (ret := (some .boolean)) (own := RX7) (by decide) rfl rfl (Nat.le_of_ble_eq_true rfl) ?_
  intro p e s m args below meth c hx hb hr hts hown hlocks hml ls hl
  have hl : lv_has ls 1 [(0, .int p0)] := hl
  refine lv_iload_n hx hb dX7_isLimit_0 rfl (lv_at hl 0 rfl) ?_
  refine lv_iconst (v := 1) hx hb dX7_isLimit_1 (by decide) ?_
  refine lv_icmp_lt (tgt := 15) hx hb dX7_isLimit_2 (by decide) (fun c2 => ?_) (fun c2 => ?_)
  · try simp only [if_pos c2] at hm
    refine lv_iconst (v := 0) hx hb dX7_isLimit_15 (by decide) ?_
    subst hm
    exact ro_iret hx hb hr rfl ⟨rfl, rfl⟩ dX7_isLimit_16 hlocks
  · try simp only [if_neg c2] at hm
    refine lv_iload_n hx hb dX7_isLimit_5 rfl (lv_at hl 0 rfl) ?_
    refine lv_bipush (v := 8) hx hb dX7_isLimit_6 (by decide) ?_
    refine lv_icmp_gt (tgt := 15) hx hb dX7_isLimit_8 (by decide) (fun c8 => ?_) (fun c8 => ?_)
    · try simp only [if_pos c8] at hm
      refine lv_iconst (v := 0) hx hb dX7_isLimit_15 (by decide) ?_
      subst hm
      exact ro_iret hx hb hr rfl ⟨rfl, rfl⟩ dX7_isLimit_16 hlocks
    · try simp only [if_neg c8] at hm
      refine lv_iconst (v := 1) hx hb dX7_isLimit_11 (by decide) ?_
      refine lv_goto (tgt := 16) hx hb dX7_isLimit_12 (by decide) ?_
      subst hm
      exact ro_iret hx hb hr rfl ⟨rfl, rfl⟩ dX7_isLimit_16 hlocks
def mX7_tour (v_t_town_state_houses : Int32) : Int32 :=
  (mX5_tourRoads v_t_town_state_houses)
abbrev rmX7_tour : Room := { frames := 1, cells := 0, slots := 0, locals := 20 }
abbrev wX7_tour (cA : ClassId) (a_t a_t_town a_t_trial a_t_saves a_t_text a_t_reader a_t_town_state a_t_town_parents a_t_town_children a_t_town_roads a_t_town_namesIn a_t_town_weightIn a_t_town_homes a_t_town_leaving a_t_town_state_keys a_t_town_state_weights : Nat) (v_t_town_state_houses v_t_town_state_limit v_t_town_state_movedIn v_t_town_state_evicted v_t_town_state_built v_t_town_state_tornDown : Int32) : va_W := [(a_t, .inr (6, [.ref a_t_town, .ref a_t_trial, .ref a_t_saves, .ref a_t_text, .ref a_t_reader])), (a_t_town, .inr (4, [.ref a_t_town_state, .ref a_t_town_parents, .ref a_t_town_children, .ref a_t_town_roads, .ref a_t_town_namesIn, .ref a_t_town_weightIn, .ref a_t_town_homes, .ref a_t_town_leaving])), (a_t_town_state, .inr (3, [.ref a_t_town_state_keys, .ref a_t_town_state_weights, .int v_t_town_state_houses, .int v_t_town_state_limit, .int v_t_town_state_movedIn, .int v_t_town_state_evicted, .int v_t_town_state_built, .int v_t_town_state_tornDown]))]
theorem iX7_tour_X7 : ∀ w ∈ wsX70, w ∈ wsX7_tour := (fun _ h => List.mem_cons_of_mem _ (List.mem_append_left _ (List.mem_append_left _ (List.mem_append_right _ h))))
theorem hdX7_tour : yX7_tour.cls = RX7 ∧ yX7_tour.cls ≠ "java/lang/invoke/MethodHandle" ∧ yX7_tour.cls ≠ "java/lang/invoke/VarHandle" ∧ (parseMethodDescriptor yX7_tour.desc).map (fun d => d.parameters.length) = some 0 := by decide +kernel
set_option maxHeartbeats 4000000 in
set_option maxRecDepth 100000 in
theorem kX7_tour (l : Launch) (dC : Nat → ClassId) (dI : Nat → Nat → Nat) (cA : ClassId) (a_t a_t_town a_t_trial a_t_saves a_t_text a_t_reader a_t_town_state a_t_town_parents a_t_town_children a_t_town_roads a_t_town_namesIn a_t_town_weightIn a_t_town_homes a_t_town_leaving a_t_town_state_keys a_t_town_state_weights : Nat) (v_t_town_state_houses v_t_town_state_limit v_t_town_state_movedIn v_t_town_state_evicted v_t_town_state_built v_t_town_state_tornDown : Int32) : Met l yX7_tour wsX7_tour rmX7_tour (rpc (dC, dI) [(cA, .int)] (wX7_tour cA a_t a_t_town a_t_trial a_t_saves a_t_text a_t_reader a_t_town_state a_t_town_parents a_t_town_children a_t_town_roads a_t_town_namesIn a_t_town_weightIn a_t_town_homes a_t_town_leaving a_t_town_state_keys a_t_town_state_weights v_t_town_state_houses v_t_town_state_limit v_t_town_state_movedIn v_t_town_state_evicted v_t_town_state_built v_t_town_state_tornDown) [.ref a_t]) (vp_Si (fun x => x = (mX7_tour v_t_town_state_houses))) 0 0 (fun _ => False) := by
  obtain ⟨r, hm⟩ : ∃ r, mX7_tour v_t_town_state_houses = r := ⟨_, rfl⟩
  rw [hm]
  unfold mX7_tour at hm
  refine ro_ofW (cc := cX7_tour) (maxL := 1) (ret := (some .int)) (own := RX7) (by decide) rfl rfl (Nat.le_of_ble_eq_true rfl) ?_
  intro p e s m args below meth c hx hb hr hts hown hlocks hml hP hK ls hl
  have hl : lv_has ls 1 [(0, .ref a_t)] := hl
  have hP : va_P (dC, dI) vwCl [(a_t, .inr (6, [.ref a_t_town, .ref a_t_trial, .ref a_t_saves, .ref a_t_text, .ref a_t_reader])), (a_t_town, .inr (4, [.ref a_t_town_state, .ref a_t_town_parents, .ref a_t_town_children, .ref a_t_town_roads, .ref a_t_town_namesIn, .ref a_t_town_weightIn, .ref a_t_town_homes, .ref a_t_town_leaving])), (a_t_town_state, .inr (3, [.ref a_t_town_state_keys, .ref a_t_town_state_weights, .int v_t_town_state_houses, .int v_t_town_state_limit, .int v_t_town_state_movedIn, .int v_t_town_state_evicted, .int v_t_town_state_built, .int v_t_town_state_tornDown]))] s.heap := hP
  refine lv_aload_n hx hb dX7_tour_0 rfl (lv_at hl 0 rfl) ?_
  refine va_get (D := (dC, dI)) (ci := 6) (C := RX7) (T := TX7) (N := 5) hx hb hts iX7_tour_X7 hown hK hP 0 rfl rfl 0 (by decide) (hts _ (List.mem_of_getElem? (i := 1) rfl)) (fun _ h9 => h9) rfl dX7_tour_1 ?_
  refine ro_callVe ⟨hx, hb, hml, hown, hts⟩ (kX5_tourRoads l dC dI cA a_t_town a_t_town_state a_t_town_parents a_t_town_children a_t_town_roads a_t_town_namesIn a_t_town_weightIn a_t_town_homes a_t_town_leaving a_t_town_state_keys a_t_town_state_weights v_t_town_state_houses v_t_town_state_limit v_t_town_state_movedIn v_t_town_state_evicted v_t_town_state_built v_t_town_state_tornDown) (cwV 0 hts gX7_tour_X5_tourRoads rfl rfl rfl hdX5_tourRoads ⟨Nat.le_of_ble_eq_true rfl, Nat.le_of_ble_eq_true rfl⟩) (hP.sub [1, 2] rfl) hK rfl rfl rfl hl.1 rfl (Nat.le_of_ble_eq_true rfl) dX7_tour_4 ⟨Nat.zero_le _, Nat.zero_le _⟩ ?_
  subst hm
  exact ro_iret hx hb hr rfl rfl dX7_tour_7 hlocks
def mX7_bestMove (v_t_town_state_houses : Int32) (v_t_town_state_limit : Int32) (f_t_town_state_keys_cells : Nat → Int32) (f_t_town_state_weights_cells : Nat → Int32) (f_t_town_parents_cells : Nat → Int32) (f_t_town_children_cells : Nat → Int32) (f_t_town_weightIn_cells : Nat → Int32) : Option (Int32) :=
  ((mX5_bestToMove v_t_town_state_houses v_t_town_state_limit f_t_town_state_keys_cells f_t_town_state_weights_cells f_t_town_parents_cells f_t_town_children_cells f_t_town_weightIn_cells).bind fun r4 =>
  some r4)
abbrev rmX7_bestMove : Room := { frames := 6, cells := 0, slots := 0, locals := 130 }
abbrev wX7_bestMove (cA : ClassId) (a_t a_t_town a_t_trial a_t_saves a_t_text a_t_reader a_t_town_state a_t_town_parents a_t_town_children a_t_town_roads a_t_town_namesIn a_t_town_weightIn a_t_town_homes a_t_town_leaving a_t_town_state_keys a_t_town_state_weights a_t_town_state_keys_cells a_t_town_state_weights_cells a_t_town_parents_cells a_t_town_children_cells a_t_town_weightIn_cells : Nat) (v_t_town_state_houses v_t_town_state_limit v_t_town_state_movedIn v_t_town_state_evicted v_t_town_state_built v_t_town_state_tornDown : Int32) (f_t_town_state_keys_cells f_t_town_state_weights_cells f_t_town_parents_cells f_t_town_children_cells f_t_town_weightIn_cells : Nat → Int32) : va_W := [(a_t, .inr (6, [.ref a_t_town, .ref a_t_trial, .ref a_t_saves, .ref a_t_text, .ref a_t_reader])), (a_t_town, .inr (4, [.ref a_t_town_state, .ref a_t_town_parents, .ref a_t_town_children, .ref a_t_town_roads, .ref a_t_town_namesIn, .ref a_t_town_weightIn, .ref a_t_town_homes, .ref a_t_town_leaving])), (a_t_town_state, .inr (3, [.ref a_t_town_state_keys, .ref a_t_town_state_weights, .int v_t_town_state_houses, .int v_t_town_state_limit, .int v_t_town_state_movedIn, .int v_t_town_state_evicted, .int v_t_town_state_built, .int v_t_town_state_tornDown])), (a_t_town_state_keys, .inr (2, [.ref a_t_town_state_keys_cells])), (a_t_town_state_keys_cells, .inl (cA, 193, .inl f_t_town_state_keys_cells)), (a_t_town_state_weights, .inr (2, [.ref a_t_town_state_weights_cells])), (a_t_town_state_weights_cells, .inl (cA, 193, .inl f_t_town_state_weights_cells)), (a_t_town_parents, .inr (2, [.ref a_t_town_parents_cells])), (a_t_town_parents_cells, .inl (cA, 193, .inl f_t_town_parents_cells)), (a_t_town_children, .inr (2, [.ref a_t_town_children_cells])), (a_t_town_children_cells, .inl (cA, 193, .inl f_t_town_children_cells)), (a_t_town_weightIn, .inr (2, [.ref a_t_town_weightIn_cells])), (a_t_town_weightIn_cells, .inl (cA, 193, .inl f_t_town_weightIn_cells))]
theorem iX7_bestMove_X7 : ∀ w ∈ wsX70, w ∈ wsX7_bestMove := (fun _ h => List.mem_cons_of_mem _ (List.mem_append_left _ (List.mem_append_left _ (List.mem_append_left _ (List.mem_append_right _ h)))))
theorem hdX7_bestMove : yX7_bestMove.cls = RX7 ∧ yX7_bestMove.cls ≠ "java/lang/invoke/MethodHandle" ∧ yX7_bestMove.cls ≠ "java/lang/invoke/VarHandle" ∧ (parseMethodDescriptor yX7_bestMove.desc).map (fun d => d.parameters.length) = some 0 := by decide +kernel
set_option maxHeartbeats 4000000 in
set_option maxRecDepth 100000 in
theorem kX7_bestMove (l : Launch) (dC : Nat → ClassId) (dI : Nat → Nat → Nat) (cA : ClassId) (a_t a_t_town a_t_trial a_t_saves a_t_text a_t_reader a_t_town_state a_t_town_parents a_t_town_children a_t_town_roads a_t_town_namesIn a_t_town_weightIn a_t_town_homes a_t_town_leaving a_t_town_state_keys a_t_town_state_weights a_t_town_state_keys_cells a_t_town_state_weights_cells a_t_town_parents_cells a_t_town_children_cells a_t_town_weightIn_cells : Nat) (v_t_town_state_houses v_t_town_state_limit v_t_town_state_movedIn v_t_town_state_evicted v_t_town_state_built v_t_town_state_tornDown : Int32) (f_t_town_state_keys_cells f_t_town_state_weights_cells f_t_town_parents_cells f_t_town_children_cells f_t_town_weightIn_cells : Nat → Int32) (r : Int32) (hm : (mX7_bestMove v_t_town_state_houses v_t_town_state_limit f_t_town_state_keys_cells f_t_town_state_weights_cells f_t_town_parents_cells f_t_town_children_cells f_t_town_weightIn_cells) = some r) : Met l yX7_bestMove wsX7_bestMove rmX7_bestMove (rpc (dC, dI) [(cA, .int)] (wX7_bestMove cA a_t a_t_town a_t_trial a_t_saves a_t_text a_t_reader a_t_town_state a_t_town_parents a_t_town_children a_t_town_roads a_t_town_namesIn a_t_town_weightIn a_t_town_homes a_t_town_leaving a_t_town_state_keys a_t_town_state_weights a_t_town_state_keys_cells a_t_town_state_weights_cells a_t_town_parents_cells a_t_town_children_cells a_t_town_weightIn_cells v_t_town_state_houses v_t_town_state_limit v_t_town_state_movedIn v_t_town_state_evicted v_t_town_state_built v_t_town_state_tornDown f_t_town_state_keys_cells f_t_town_state_weights_cells f_t_town_parents_cells f_t_town_children_cells f_t_town_weightIn_cells) [.ref a_t]) (vp_Si (fun x => x = r)) 0 0 (fun _ => False) := by
  unfold mX7_bestMove at hm
  refine ro_ofW (cc := cX7_bestMove) (maxL := 1) (ret := (some .int)) (own := RX7) (by decide) rfl rfl (Nat.le_of_ble_eq_true rfl) ?_
  intro p e s m args below meth c hx hb hr hts hown hlocks hml hP hK ls hl
  have hl : lv_has ls 1 [(0, .ref a_t)] := hl
  have hP : va_P (dC, dI) vwCl [(a_t, .inr (6, [.ref a_t_town, .ref a_t_trial, .ref a_t_saves, .ref a_t_text, .ref a_t_reader])), (a_t_town, .inr (4, [.ref a_t_town_state, .ref a_t_town_parents, .ref a_t_town_children, .ref a_t_town_roads, .ref a_t_town_namesIn, .ref a_t_town_weightIn, .ref a_t_town_homes, .ref a_t_town_leaving])), (a_t_town_state, .inr (3, [.ref a_t_town_state_keys, .ref a_t_town_state_weights, .int v_t_town_state_houses, .int v_t_town_state_limit, .int v_t_town_state_movedIn, .int v_t_town_state_evicted, .int v_t_town_state_built, .int v_t_town_state_tornDown])), (a_t_town_state_keys, .inr (2, [.ref a_t_town_state_keys_cells])), (a_t_town_state_keys_cells, .inl (cA, 193, .inl f_t_town_state_keys_cells)), (a_t_town_state_weights, .inr (2, [.ref a_t_town_state_weights_cells])), (a_t_town_state_weights_cells, .inl (cA, 193, .inl f_t_town_state_weights_cells)), (a_t_town_parents, .inr (2, [.ref a_t_town_parents_cells])), (a_t_town_parents_cells, .inl (cA, 193, .inl f_t_town_parents_cells)), (a_t_town_children, .inr (2, [.ref a_t_town_children_cells])), (a_t_town_children_cells, .inl (cA, 193, .inl f_t_town_children_cells)), (a_t_town_weightIn, .inr (2, [.ref a_t_town_weightIn_cells])), (a_t_town_weightIn_cells, .inl (cA, 193, .inl f_t_town_weightIn_cells))] s.heap := hP
  refine lv_aload_n hx hb dX7_bestMove_0 rfl (lv_at hl 0 rfl) ?_
  refine va_get (D := (dC, dI)) (ci := 6) (C := RX7) (T := TX7) (N := 5) hx hb hts iX7_bestMove_X7 hown hK hP 0 rfl rfl 0 (by decide) (hts _ (List.mem_of_getElem? (i := 1) rfl)) (fun _ h9 => h9) rfl dX7_bestMove_1 ?_
  obtain ⟨r4, e4, hm⟩ := bs hm
  try dsimp only at hm
  refine ro_callVe ⟨hx, hb, hml, hown, hts⟩ (kX5_bestToMove l dC dI cA a_t_town a_t_town_state a_t_town_parents a_t_town_children a_t_town_roads a_t_town_namesIn a_t_town_weightIn a_t_town_homes a_t_town_leaving a_t_town_state_keys a_t_town_state_weights a_t_town_state_keys_cells a_t_town_state_weights_cells a_t_town_parents_cells a_t_town_children_cells a_t_town_weightIn_cells v_t_town_state_houses v_t_town_state_limit v_t_town_state_movedIn v_t_town_state_evicted v_t_town_state_built v_t_town_state_tornDown f_t_town_state_keys_cells f_t_town_state_weights_cells f_t_town_parents_cells f_t_town_children_cells f_t_town_weightIn_cells r4 e4) (cwV 0 hts gX7_bestMove_X5_bestToMove rfl rfl rfl hdX5_bestToMove ⟨Nat.le_of_ble_eq_true rfl, Nat.le_of_ble_eq_true rfl⟩) (hP.sub [1, 2, 3, 4, 5, 6, 7, 8, 9, 10, 11, 12] rfl) hK rfl rfl rfl hl.1 rfl (Nat.le_of_ble_eq_true rfl) dX7_bestMove_4 ⟨Nat.zero_le _, Nat.zero_le _⟩ ?_
  cases hm
  exact ro_iret hx hb hr rfl rfl dX7_bestMove_7 hlocks
def mX7_clearCommands (v_t_text_length : Int32) : Option (Int32 × Int32) :=
  ((mX1_empty v_t_text_length).bind fun (r4, v_t_text_length_4) =>
  some (r4, v_t_text_length_4))
abbrev rmX7_clearCommands : Room := { frames := 1, cells := 0, slots := 0, locals := 21 }
abbrev wX7_clearCommands (cA : ClassId) (a_t a_t_town a_t_trial a_t_saves a_t_text a_t_reader a_t_text_signs : Nat) (v_t_text_length : Int32) : va_W := [(a_t, .inr (6, [.ref a_t_town, .ref a_t_trial, .ref a_t_saves, .ref a_t_text, .ref a_t_reader])), (a_t_text, .inr (1, [.ref a_t_text_signs, .int v_t_text_length]))]
theorem iX7_clearCommands_X7 : ∀ w ∈ wsX70, w ∈ wsX7_clearCommands := (fun _ h => List.mem_cons_of_mem _ (List.mem_append_left _ (List.mem_append_right _ h)))
theorem hdX7_clearCommands : yX7_clearCommands.cls = RX7 ∧ yX7_clearCommands.cls ≠ "java/lang/invoke/MethodHandle" ∧ yX7_clearCommands.cls ≠ "java/lang/invoke/VarHandle" ∧ (parseMethodDescriptor yX7_clearCommands.desc).map (fun d => d.parameters.length) = some 0 := by decide +kernel
set_option maxHeartbeats 4000000 in
set_option maxRecDepth 100000 in
theorem kX7_clearCommands (l : Launch) (dC : Nat → ClassId) (dI : Nat → Nat → Nat) (cA : ClassId) (a_t a_t_town a_t_trial a_t_saves a_t_text a_t_reader a_t_text_signs : Nat) (v_t_text_length : Int32) (sz : Nat) (r o_v_t_text_length : Int32) (hm : (mX7_clearCommands v_t_text_length) = some (r, o_v_t_text_length)) : Met l yX7_clearCommands wsX7_clearCommands rmX7_clearCommands (mpc (dC, dI) [(cA, .int)] (wX7_clearCommands cA a_t a_t_town a_t_trial a_t_saves a_t_text a_t_reader a_t_text_signs v_t_text_length) [.ref a_t] sz) (mqi (dC, dI) [(cA, .int)] (va_A (wX7_clearCommands cA a_t a_t_town a_t_trial a_t_saves a_t_text a_t_reader a_t_text_signs v_t_text_length) sz) (wX7_clearCommands cA a_t a_t_town a_t_trial a_t_saves a_t_text a_t_reader a_t_text_signs o_v_t_text_length) (fun x => x = r)) 0 0 (va_A (wX7_clearCommands cA a_t a_t_town a_t_trial a_t_saves a_t_text a_t_reader a_t_text_signs v_t_text_length) sz) := by
  unfold mX7_clearCommands at hm
  refine mu_ofW (Qc := fun A => mqi (dC, dI) [(cA, .int)] A (wX7_clearCommands cA a_t a_t_town a_t_trial a_t_saves a_t_text a_t_reader a_t_text_signs o_v_t_text_length) (fun x => x = r)) (cc := cX7_clearCommands) (maxL := 1) (ret := (some .int)) (own := RX7) (by decide) rfl rfl (Nat.le_of_ble_eq_true rfl) ?_
  intro p e s m args below meth c hx hb hr hts hown hlocks hml hin A hA hP hD hS hK ls hl
  have hl : lv_has ls 1 [(0, .ref a_t)] := hl
  have hP : va_P (dC, dI) vwCl [(a_t, .inr (6, [.ref a_t_town, .ref a_t_trial, .ref a_t_saves, .ref a_t_text, .ref a_t_reader])), (a_t_text, .inr (1, [.ref a_t_text_signs, .int v_t_text_length]))] s.heap := hP
  have hD : va_D A [(a_t, .inr (6, [.ref a_t_town, .ref a_t_trial, .ref a_t_saves, .ref a_t_text, .ref a_t_reader])), (a_t_text, .inr (1, [.ref a_t_text_signs, .int v_t_text_length]))] := hD
  refine lv_aload_n hx hb dX7_clearCommands_0 rfl (lv_at hl 0 rfl) ?_
  refine va_get (D := (dC, dI)) (ci := 6) (C := RX7) (T := TX7) (N := 5) hx hb hts iX7_clearCommands_X7 hown hK hP 0 rfl rfl 3 (by decide) (hts _ (List.mem_of_getElem? (i := 1) rfl)) (fun _ h9 => h9) rfl dX7_clearCommands_1 ?_
  obtain ⟨⟨r4, v_t_text_length_4⟩, e4, hm⟩ := bs hm
  try dsimp only at hm
  refine mu_callVe (wr := [(a_t, .inr (6, [.ref a_t_town, .ref a_t_trial, .ref a_t_saves, .ref a_t_text, .ref a_t_reader]))]) ⟨hx, hb, hml, hown, hts⟩ (kX1_empty l dC dI cA a_t_text a_t_text_signs v_t_text_length _ r4 v_t_text_length_4 e4) (cwV 0 hts gX7_clearCommands_X1_empty rfl rfl rfl hdX1_empty ⟨Nat.le_of_ble_eq_true rfl, Nat.le_of_ble_eq_true rfl⟩) hP hD hS hA hK [1] [0] rfl rfl rfl rfl (by decide) rfl rfl rfl hl.1 rfl (Nat.le_of_ble_eq_true rfl) dX7_clearCommands_4 ⟨Nat.zero_le _, Nat.zero_le _⟩ (fun H locs hP hD hS => ?_)
  have hP : va_P (dC, dI) vwCl [(a_t, .inr (6, [.ref a_t_town, .ref a_t_trial, .ref a_t_saves, .ref a_t_text, .ref a_t_reader])), (a_t_text, .inr (1, [.ref a_t_text_signs, .int v_t_text_length_4]))] H := hP
  have hD : va_D A [(a_t, .inr (6, [.ref a_t_town, .ref a_t_trial, .ref a_t_saves, .ref a_t_text, .ref a_t_reader])), (a_t_text, .inr (1, [.ref a_t_text_signs, .int v_t_text_length_4]))] := hD
  cases hm
  exact mu_iret hx hb hr rfl rfl hP hD hS hK [0, 1] rfl (by decide) dX7_clearCommands_7 hlocks
def mX7_findFault_L9 (v_t_text_length : Int32) (f_t_text_signs_cells : Nat → Int32) : Nat → (Int32) → (Int32) → (Int32) → (Int32) → (Int32) → (Int32) → (Int32) → Option (Nat × Int32 × Int32 × Int32 × Int32 × Int32 × Int32 × Int32)
  | 0, _, _, _, _, _, _, _ => none
  | n + 1, x1_9, v_t_reader_inCommand_L9, v_t_reader_kind_L9, v_t_reader_letters_L9, v_t_reader_length_L9, v_t_reader_number_L9, v_t_reader_digits_L9 =>
    (if (mX1_length v_t_text_length) ≤ x1_9 then
      some (1, x1_9, v_t_reader_inCommand_L9, v_t_reader_kind_L9, v_t_reader_letters_L9, v_t_reader_length_L9, v_t_reader_number_L9, v_t_reader_digits_L9)
    else
      ((mX0_read v_t_reader_inCommand_L9 v_t_reader_kind_L9 v_t_reader_letters_L9 v_t_reader_length_L9 v_t_reader_number_L9 v_t_reader_digits_L9 (mX1_signAt f_t_text_signs_cells x1_9)).bind fun (r32, v_t_reader_inCommand_32, v_t_reader_kind_32, v_t_reader_letters_32, v_t_reader_length_32, v_t_reader_number_32, v_t_reader_digits_32) =>
      (if r32 = 0 then
        some (0, x1_9, v_t_reader_inCommand_32, v_t_reader_kind_32, v_t_reader_letters_32, v_t_reader_length_32, v_t_reader_number_32, v_t_reader_digits_32)
      else
        mX7_findFault_L9 v_t_text_length f_t_text_signs_cells n (x1_9 + 1) v_t_reader_inCommand_32 v_t_reader_kind_32 v_t_reader_letters_32 v_t_reader_length_32 v_t_reader_number_32 v_t_reader_digits_32)))
def mX7_findFault (v_t_text_length : Int32) (f_t_text_signs_cells : Nat → Int32) (v_t_reader_kind : Int32) (v_t_reader_letters : Int32) (v_t_reader_length : Int32) (v_t_reader_number : Int32) (v_t_reader_digits : Int32) : Option (Int32 × Int32 × Int32 × Int32 × Int32 × Int32 × Int32) :=
  (mX0_restart.bind fun v_t_reader_inCommand_4 =>
  ((mX7_findFault_L9 v_t_text_length f_t_text_signs_cells FU 0 v_t_reader_inCommand_4 v_t_reader_kind v_t_reader_letters v_t_reader_length v_t_reader_number v_t_reader_digits).bind fun (k9, y1_9, v_t_reader_inCommand_E9, v_t_reader_kind_E9, v_t_reader_letters_E9, v_t_reader_length_E9, v_t_reader_number_E9, v_t_reader_digits_E9) =>
  (if k9 = 0 then
    some (y1_9, v_t_reader_inCommand_E9, v_t_reader_kind_E9, v_t_reader_letters_E9, v_t_reader_length_E9, v_t_reader_number_E9, v_t_reader_digits_E9)
  else
    some ((if (mX0_isBetweenCommands v_t_reader_inCommand_E9) = 0 then (mX1_length v_t_text_length) else (-1)), v_t_reader_inCommand_E9, v_t_reader_kind_E9, v_t_reader_letters_E9, v_t_reader_length_E9, v_t_reader_number_E9, v_t_reader_digits_E9))))
abbrev rmX7_findFault : Room := { frames := 3, cells := 0, slots := 0, locals := 62 }
abbrev wX7_findFault (cA : ClassId) (a_t a_t_town a_t_trial a_t_saves a_t_text a_t_reader a_t_text_signs a_t_text_signs_cells : Nat) (v_t_text_length : Int32) (f_t_text_signs_cells : Nat → Int32) (v_t_reader_inCommand v_t_reader_kind v_t_reader_letters v_t_reader_length v_t_reader_number v_t_reader_digits : Int32) : va_W := [(a_t, .inr (6, [.ref a_t_town, .ref a_t_trial, .ref a_t_saves, .ref a_t_text, .ref a_t_reader])), (a_t_text, .inr (1, [.ref a_t_text_signs, .int v_t_text_length])), (a_t_text_signs, .inr (2, [.ref a_t_text_signs_cells])), (a_t_text_signs_cells, .inl (cA, 120, .inl f_t_text_signs_cells)), (a_t_reader, .inr (0, [.int v_t_reader_inCommand, .int v_t_reader_kind, .int v_t_reader_letters, .int v_t_reader_length, .int v_t_reader_number, .int v_t_reader_digits]))]
theorem iX7_findFault_X7 : ∀ w ∈ wsX70, w ∈ wsX7_findFault := (fun _ h => List.mem_cons_of_mem _ (List.mem_append_left _ (List.mem_append_left _ (List.mem_append_left _ (List.mem_append_right _ h)))))
theorem hdX7_findFault : yX7_findFault.cls = RX7 ∧ yX7_findFault.cls ≠ "java/lang/invoke/MethodHandle" ∧ yX7_findFault.cls ≠ "java/lang/invoke/VarHandle" ∧ (parseMethodDescriptor yX7_findFault.desc).map (fun d => d.parameters.length) = some 0 := by decide +kernel
set_option maxHeartbeats 4000000 in
set_option maxRecDepth 100000 in
theorem wX7_findFault_L9 {p : Program} {l : Launch} {e : Env} {s : State} {m : MethodId} {args : Array Value} {below : List Frame} {meth : Method} {c : Code} {Q : State → Prop} {A : Nat → Prop} (dC : Nat → ClassId) (dI : Nat → Nat → Nat) (cA : ClassId) (a_t a_t_town a_t_trial a_t_saves a_t_text a_t_reader a_t_text_signs a_t_text_signs_cells : Nat) (v_t_text_length : Int32) (f_t_text_signs_cells : Nat → Int32) (k9 : Nat) (y1_9 v_t_reader_inCommand_E9 v_t_reader_kind_E9 v_t_reader_letters_E9 v_t_reader_length_E9 v_t_reader_number_E9 v_t_reader_digits_E9 : Int32) (hx : p.tables.exec = Jvm.exec) (hb : c.code = cX7_findFault) (hml : c.maxLocals = 2) (hown : s.vm.findClass RX7 = some m.cls) (hts : ∀ w ∈ wsX7_findFault, w.before args s = true) (hA : ∀ q, s.heap.size ≤ q → A q) (hK : va_K (dC, dI) vwCl [(cA, .int)] s)
    (kk0 : k9 = 0 → ∀ (H : Heap) (locs : List Loc), va_P (dC, dI) vwCl [(a_t, .inr (6, [.ref a_t_town, .ref a_t_trial, .ref a_t_saves, .ref a_t_text, .ref a_t_reader])), (a_t_text, .inr (1, [.ref a_t_text_signs, .int v_t_text_length])), (a_t_text_signs, .inr (2, [.ref a_t_text_signs_cells])), (a_t_text_signs_cells, .inl (cA, 120, .inl f_t_text_signs_cells)), (a_t_reader, .inr (0, [.int v_t_reader_inCommand_E9, .int v_t_reader_kind_E9, .int v_t_reader_letters_E9, .int v_t_reader_length_E9, .int v_t_reader_number_E9, .int v_t_reader_digits_E9]))] H → va_D A [(a_t, .inr (6, [.ref a_t_town, .ref a_t_trial, .ref a_t_saves, .ref a_t_text, .ref a_t_reader])), (a_t_text, .inr (1, [.ref a_t_text_signs, .int v_t_text_length])), (a_t_text_signs, .inr (2, [.ref a_t_text_signs_cells])), (a_t_text_signs_cells, .inl (cA, 120, .inl f_t_text_signs_cells)), (a_t_reader, .inr (0, [.int v_t_reader_inCommand_E9, .int v_t_reader_kind_E9, .int v_t_reader_letters_E9, .int v_t_reader_length_E9, .int v_t_reader_number_E9, .int v_t_reader_digits_E9]))] → va_S A s.heap H locs → ∀ ls : Array Slot, lv_has ls 2 [(0, .ref a_t), (1, .int y1_9)] → W p l e (headSpec wsX7_findFault rmX7_findFault).room s m args below meth c H locs 0 0 Q (F0 m 38 ls []))
    (kk1 : k9 = 1 → ∀ (H : Heap) (locs : List Loc), va_P (dC, dI) vwCl [(a_t, .inr (6, [.ref a_t_town, .ref a_t_trial, .ref a_t_saves, .ref a_t_text, .ref a_t_reader])), (a_t_text, .inr (1, [.ref a_t_text_signs, .int v_t_text_length])), (a_t_text_signs, .inr (2, [.ref a_t_text_signs_cells])), (a_t_text_signs_cells, .inl (cA, 120, .inl f_t_text_signs_cells)), (a_t_reader, .inr (0, [.int v_t_reader_inCommand_E9, .int v_t_reader_kind_E9, .int v_t_reader_letters_E9, .int v_t_reader_length_E9, .int v_t_reader_number_E9, .int v_t_reader_digits_E9]))] H → va_D A [(a_t, .inr (6, [.ref a_t_town, .ref a_t_trial, .ref a_t_saves, .ref a_t_text, .ref a_t_reader])), (a_t_text, .inr (1, [.ref a_t_text_signs, .int v_t_text_length])), (a_t_text_signs, .inr (2, [.ref a_t_text_signs_cells])), (a_t_text_signs_cells, .inl (cA, 120, .inl f_t_text_signs_cells)), (a_t_reader, .inr (0, [.int v_t_reader_inCommand_E9, .int v_t_reader_kind_E9, .int v_t_reader_letters_E9, .int v_t_reader_length_E9, .int v_t_reader_number_E9, .int v_t_reader_digits_E9]))] → va_S A s.heap H locs → ∀ ls : Array Slot, lv_has ls 2 [(0, .ref a_t), (1, .int y1_9)] → W p l e (headSpec wsX7_findFault rmX7_findFault).room s m args below meth c H locs 0 0 Q (F0 m 46 ls [])) :
    ∀ (n : Nat) (x1_9 v_t_reader_inCommand_L9 v_t_reader_kind_L9 v_t_reader_letters_L9 v_t_reader_length_L9 v_t_reader_number_L9 v_t_reader_digits_L9 : Int32), mX7_findFault_L9 v_t_text_length f_t_text_signs_cells n x1_9 v_t_reader_inCommand_L9 v_t_reader_kind_L9 v_t_reader_letters_L9 v_t_reader_length_L9 v_t_reader_number_L9 v_t_reader_digits_L9 = some (k9, y1_9, v_t_reader_inCommand_E9, v_t_reader_kind_E9, v_t_reader_letters_E9, v_t_reader_length_E9, v_t_reader_number_E9, v_t_reader_digits_E9) → ∀ (H : Heap) (locs : List Loc), va_P (dC, dI) vwCl [(a_t, .inr (6, [.ref a_t_town, .ref a_t_trial, .ref a_t_saves, .ref a_t_text, .ref a_t_reader])), (a_t_text, .inr (1, [.ref a_t_text_signs, .int v_t_text_length])), (a_t_text_signs, .inr (2, [.ref a_t_text_signs_cells])), (a_t_text_signs_cells, .inl (cA, 120, .inl f_t_text_signs_cells)), (a_t_reader, .inr (0, [.int v_t_reader_inCommand_L9, .int v_t_reader_kind_L9, .int v_t_reader_letters_L9, .int v_t_reader_length_L9, .int v_t_reader_number_L9, .int v_t_reader_digits_L9]))] H → va_D A [(a_t, .inr (6, [.ref a_t_town, .ref a_t_trial, .ref a_t_saves, .ref a_t_text, .ref a_t_reader])), (a_t_text, .inr (1, [.ref a_t_text_signs, .int v_t_text_length])), (a_t_text_signs, .inr (2, [.ref a_t_text_signs_cells])), (a_t_text_signs_cells, .inl (cA, 120, .inl f_t_text_signs_cells)), (a_t_reader, .inr (0, [.int v_t_reader_inCommand_L9, .int v_t_reader_kind_L9, .int v_t_reader_letters_L9, .int v_t_reader_length_L9, .int v_t_reader_number_L9, .int v_t_reader_digits_L9]))] → va_S A s.heap H locs → ∀ ls : Array Slot, lv_has ls 2 [(0, .ref a_t), (1, .int x1_9)] → W p l e (headSpec wsX7_findFault rmX7_findFault).room s m args below meth c H locs 0 0 Q (F0 m 9 ls []) := by
  intro n
  induction n with
  | zero =>
    intro x1_9 v_t_reader_inCommand_L9 v_t_reader_kind_L9 v_t_reader_letters_L9 v_t_reader_length_L9 v_t_reader_number_L9 v_t_reader_digits_L9 hm
    cases hm
  | succ n ih =>
    intro x1_9 v_t_reader_inCommand_L9 v_t_reader_kind_L9 v_t_reader_letters_L9 v_t_reader_length_L9 v_t_reader_number_L9 v_t_reader_digits_L9 hm H locs hP hD hS ls hl
    rw [mX7_findFault_L9] at hm
    refine lv_iload_n hx hb dX7_findFault_9 rfl (lv_at hl 1 rfl) ?_
    refine lv_aload_n hx hb dX7_findFault_10 rfl (lv_at hl 0 rfl) ?_
    refine va_get (D := (dC, dI)) (ci := 6) (C := RX7) (T := TX7) (N := 5) hx hb hts iX7_findFault_X7 hown hK hP 0 rfl rfl 3 (by decide) (hts _ (List.mem_of_getElem? (i := 2) rfl)) (fun _ h9 => h9) rfl dX7_findFault_11 ?_
    refine ro_callVe ⟨hx, hb, hml, hown, hts⟩ (kX1_length l dC dI cA a_t_text a_t_text_signs v_t_text_length) (cwV 0 hts gX7_findFault_X1_length rfl rfl rfl hdX1_length ⟨Nat.le_of_ble_eq_true rfl, Nat.le_of_ble_eq_true rfl⟩) (hP.sub [1] rfl) hK rfl rfl rfl hl.1 rfl (Nat.le_of_ble_eq_true rfl) dX7_findFault_14 ⟨Nat.zero_le _, Nat.zero_le _⟩ ?_
    refine lv_icmp_ge (tgt := 46) hx hb dX7_findFault_17 (by decide) (fun c17 => ?_) (fun c17 => ?_)
    · rw [if_pos c17] at hm
      cases hm
      exact kk1 rfl _ _ (hP.sub [0, 1, 2, 3, 4] rfl) (hD.sub [0, 1, 2, 3, 4] (by decide) rfl) hS _ (lv_sub hl [0, 1] rfl)
    · rw [if_neg c17] at hm
      refine lv_aload_n hx hb dX7_findFault_20 rfl (lv_at hl 0 rfl) ?_
      refine va_get (D := (dC, dI)) (ci := 6) (C := RX7) (T := TX7) (N := 5) hx hb hts iX7_findFault_X7 hown hK hP 0 rfl rfl 4 (by decide) (hts _ (List.mem_of_getElem? (i := 1) rfl)) (fun _ h9 => h9) rfl dX7_findFault_21 ?_
      refine lv_aload_n hx hb dX7_findFault_24 rfl (lv_at hl 0 rfl) ?_
      refine va_get (D := (dC, dI)) (ci := 6) (C := RX7) (T := TX7) (N := 5) hx hb hts iX7_findFault_X7 hown hK hP 0 rfl rfl 3 (by decide) (hts _ (List.mem_of_getElem? (i := 2) rfl)) (fun _ h9 => h9) rfl dX7_findFault_25 ?_
      refine lv_iload_n hx hb dX7_findFault_28 rfl (lv_at hl 1 rfl) ?_
      refine ro_callVe ⟨hx, hb, hml, hown, hts⟩ (kX1_signAt l dC dI cA a_t_text a_t_text_signs a_t_text_signs_cells v_t_text_length f_t_text_signs_cells x1_9) (cwV 1 hts gX7_findFault_X1_signAt rfl rfl rfl hdX1_signAt ⟨Nat.le_of_ble_eq_true rfl, Nat.le_of_ble_eq_true rfl⟩) (hP.sub [1, 2, 3] rfl) hK rfl rfl rfl hl.1 rfl (Nat.le_of_ble_eq_true rfl) dX7_findFault_29 ⟨Nat.zero_le _, Nat.zero_le _⟩ ?_
      obtain ⟨⟨r32, v_t_reader_inCommand_32, v_t_reader_kind_32, v_t_reader_letters_32, v_t_reader_length_32, v_t_reader_number_32, v_t_reader_digits_32⟩, e32, hm⟩ := bs hm
      try dsimp only at hm
      refine mu_callVz (wr := [(a_t, .inr (6, [.ref a_t_town, .ref a_t_trial, .ref a_t_saves, .ref a_t_text, .ref a_t_reader])), (a_t_text, .inr (1, [.ref a_t_text_signs, .int v_t_text_length])), (a_t_text_signs, .inr (2, [.ref a_t_text_signs_cells])), (a_t_text_signs_cells, .inl (cA, 120, .inl f_t_text_signs_cells))]) ⟨hx, hb, hml, hown, hts⟩ (kX0_read l dC dI cA a_t_reader v_t_reader_inCommand_L9 v_t_reader_kind_L9 v_t_reader_letters_L9 v_t_reader_length_L9 v_t_reader_number_L9 v_t_reader_digits_L9 (mX1_signAt f_t_text_signs_cells x1_9) _ r32 v_t_reader_inCommand_32 v_t_reader_kind_32 v_t_reader_letters_32 v_t_reader_length_32 v_t_reader_number_32 v_t_reader_digits_32 e32) (cwV 1 hts gX7_findFault_X0_read rfl rfl rfl hdX0_read ⟨Nat.le_of_ble_eq_true rfl, Nat.le_of_ble_eq_true rfl⟩) hP hD hS hA hK [4] [0, 1, 2, 3] rfl rfl rfl rfl (by decide) rfl rfl rfl hl.1 rfl (Nat.le_of_ble_eq_true rfl) dX7_findFault_32 ⟨Nat.zero_le _, Nat.zero_le _⟩ (fun hb32 H locs hP hD hS => ?_)
      have hP : va_P (dC, dI) vwCl [(a_t, .inr (6, [.ref a_t_town, .ref a_t_trial, .ref a_t_saves, .ref a_t_text, .ref a_t_reader])), (a_t_text, .inr (1, [.ref a_t_text_signs, .int v_t_text_length])), (a_t_text_signs, .inr (2, [.ref a_t_text_signs_cells])), (a_t_text_signs_cells, .inl (cA, 120, .inl f_t_text_signs_cells)), (a_t_reader, .inr (0, [.int v_t_reader_inCommand_32, .int v_t_reader_kind_32, .int v_t_reader_letters_32, .int v_t_reader_length_32, .int v_t_reader_number_32, .int v_t_reader_digits_32]))] H := hP
      have hD : va_D A [(a_t, .inr (6, [.ref a_t_town, .ref a_t_trial, .ref a_t_saves, .ref a_t_text, .ref a_t_reader])), (a_t_text, .inr (1, [.ref a_t_text_signs, .int v_t_text_length])), (a_t_text_signs, .inr (2, [.ref a_t_text_signs_cells])), (a_t_text_signs_cells, .inl (cA, 120, .inl f_t_text_signs_cells)), (a_t_reader, .inr (0, [.int v_t_reader_inCommand_32, .int v_t_reader_kind_32, .int v_t_reader_letters_32, .int v_t_reader_length_32, .int v_t_reader_number_32, .int v_t_reader_digits_32]))] := hD
      refine lv_if_ne (tgt := 40) hx hb dX7_findFault_35 (by decide) (fun c35 => ?_) (fun c35 => ?_)
      · rw [if_neg c35] at hm
        refine lv_iinc (v := (x1_9 + 1)) (lv' := [(1, .int (x1_9 + 1)), (0, .ref a_t)]) hx hb dX7_findFault_40 hl (k := 1) rfl rfl (by decide) rfl (fun ls hl => ?_)
        refine lv_goto (tgt := 9) hx hb dX7_findFault_43 (by decide) ?_
        exact ih _ _ _ _ _ _ _ hm _ _ (hP.sub [0, 1, 2, 3, 4] rfl) (hD.sub [0, 1, 2, 3, 4] (by decide) rfl) hS _ (lv_sub hl [1, 0] rfl)
      · rw [if_pos c35] at hm
        cases hm
        exact kk0 rfl _ _ (hP.sub [0, 1, 2, 3, 4] rfl) (hD.sub [0, 1, 2, 3, 4] (by decide) rfl) hS _ (lv_sub hl [0, 1] rfl)
set_option maxHeartbeats 4000000 in
set_option maxRecDepth 100000 in
theorem kX7_findFault (l : Launch) (dC : Nat → ClassId) (dI : Nat → Nat → Nat) (cA : ClassId) (a_t a_t_town a_t_trial a_t_saves a_t_text a_t_reader a_t_text_signs a_t_text_signs_cells : Nat) (v_t_text_length : Int32) (f_t_text_signs_cells : Nat → Int32) (v_t_reader_inCommand v_t_reader_kind v_t_reader_letters v_t_reader_length v_t_reader_number v_t_reader_digits : Int32) (sz : Nat) (r o_v_t_reader_inCommand o_v_t_reader_kind o_v_t_reader_letters o_v_t_reader_length o_v_t_reader_number o_v_t_reader_digits : Int32) (hm : (mX7_findFault v_t_text_length f_t_text_signs_cells v_t_reader_kind v_t_reader_letters v_t_reader_length v_t_reader_number v_t_reader_digits) = some (r, o_v_t_reader_inCommand, o_v_t_reader_kind, o_v_t_reader_letters, o_v_t_reader_length, o_v_t_reader_number, o_v_t_reader_digits)) : Met l yX7_findFault wsX7_findFault rmX7_findFault (mpc (dC, dI) [(cA, .int)] (wX7_findFault cA a_t a_t_town a_t_trial a_t_saves a_t_text a_t_reader a_t_text_signs a_t_text_signs_cells v_t_text_length f_t_text_signs_cells v_t_reader_inCommand v_t_reader_kind v_t_reader_letters v_t_reader_length v_t_reader_number v_t_reader_digits) [.ref a_t] sz) (mqi (dC, dI) [(cA, .int)] (va_A (wX7_findFault cA a_t a_t_town a_t_trial a_t_saves a_t_text a_t_reader a_t_text_signs a_t_text_signs_cells v_t_text_length f_t_text_signs_cells v_t_reader_inCommand v_t_reader_kind v_t_reader_letters v_t_reader_length v_t_reader_number v_t_reader_digits) sz) (wX7_findFault cA a_t a_t_town a_t_trial a_t_saves a_t_text a_t_reader a_t_text_signs a_t_text_signs_cells v_t_text_length f_t_text_signs_cells o_v_t_reader_inCommand o_v_t_reader_kind o_v_t_reader_letters o_v_t_reader_length o_v_t_reader_number o_v_t_reader_digits) (fun x => x = r)) 0 0 (va_A (wX7_findFault cA a_t a_t_town a_t_trial a_t_saves a_t_text a_t_reader a_t_text_signs a_t_text_signs_cells v_t_text_length f_t_text_signs_cells v_t_reader_inCommand v_t_reader_kind v_t_reader_letters v_t_reader_length v_t_reader_number v_t_reader_digits) sz) := by
  unfold mX7_findFault at hm
  refine mu_ofW (Qc := fun A => mqi (dC, dI) [(cA, .int)] A (wX7_findFault cA a_t a_t_town a_t_trial a_t_saves a_t_text a_t_reader a_t_text_signs a_t_text_signs_cells v_t_text_length f_t_text_signs_cells o_v_t_reader_inCommand o_v_t_reader_kind o_v_t_reader_letters o_v_t_reader_length o_v_t_reader_number o_v_t_reader_digits) (fun x => x = r)) (cc := cX7_findFault) (maxL := 2) (ret := (some .int)) (own := RX7) (by decide) rfl rfl (Nat.le_of_ble_eq_true rfl) ?_
  intro p e s m args below meth c hx hb hr hts hown hlocks hml hin A hA hP hD hS hK ls hl
  have hl : lv_has ls 2 [(0, .ref a_t)] := hl
  have hP : va_P (dC, dI) vwCl [(a_t, .inr (6, [.ref a_t_town, .ref a_t_trial, .ref a_t_saves, .ref a_t_text, .ref a_t_reader])), (a_t_text, .inr (1, [.ref a_t_text_signs, .int v_t_text_length])), (a_t_text_signs, .inr (2, [.ref a_t_text_signs_cells])), (a_t_text_signs_cells, .inl (cA, 120, .inl f_t_text_signs_cells)), (a_t_reader, .inr (0, [.int v_t_reader_inCommand, .int v_t_reader_kind, .int v_t_reader_letters, .int v_t_reader_length, .int v_t_reader_number, .int v_t_reader_digits]))] s.heap := hP
  have hD : va_D A [(a_t, .inr (6, [.ref a_t_town, .ref a_t_trial, .ref a_t_saves, .ref a_t_text, .ref a_t_reader])), (a_t_text, .inr (1, [.ref a_t_text_signs, .int v_t_text_length])), (a_t_text_signs, .inr (2, [.ref a_t_text_signs_cells])), (a_t_text_signs_cells, .inl (cA, 120, .inl f_t_text_signs_cells)), (a_t_reader, .inr (0, [.int v_t_reader_inCommand, .int v_t_reader_kind, .int v_t_reader_letters, .int v_t_reader_length, .int v_t_reader_number, .int v_t_reader_digits]))] := hD
  refine lv_aload_n hx hb dX7_findFault_0 rfl (lv_at hl 0 rfl) ?_
  refine va_get (D := (dC, dI)) (ci := 6) (C := RX7) (T := TX7) (N := 5) hx hb hts iX7_findFault_X7 hown hK hP 0 rfl rfl 4 (by decide) (hts _ (List.mem_of_getElem? (i := 1) rfl)) (fun _ h9 => h9) rfl dX7_findFault_1 ?_
  obtain ⟨v_t_reader_inCommand_4, e4, hm⟩ := bs hm
  try dsimp only at hm
  refine mu_callVv (wr := [(a_t, .inr (6, [.ref a_t_town, .ref a_t_trial, .ref a_t_saves, .ref a_t_text, .ref a_t_reader])), (a_t_text, .inr (1, [.ref a_t_text_signs, .int v_t_text_length])), (a_t_text_signs, .inr (2, [.ref a_t_text_signs_cells])), (a_t_text_signs_cells, .inl (cA, 120, .inl f_t_text_signs_cells))]) ⟨hx, hb, hml, hown, hts⟩ (kX0_restart l dC dI cA a_t_reader v_t_reader_inCommand v_t_reader_kind v_t_reader_letters v_t_reader_length v_t_reader_number v_t_reader_digits _ v_t_reader_inCommand_4 e4) (cwV 0 hts gX7_findFault_X0_restart rfl rfl rfl hdX0_restart ⟨Nat.le_of_ble_eq_true rfl, Nat.le_of_ble_eq_true rfl⟩) hP hD hS hA hK [4] [0, 1, 2, 3] rfl rfl rfl rfl (by decide) rfl rfl rfl hl.1 rfl (Nat.le_of_ble_eq_true rfl) dX7_findFault_4 ⟨Nat.zero_le _, Nat.zero_le _⟩ (fun H locs hP hD hS => ?_)
  have hP : va_P (dC, dI) vwCl [(a_t, .inr (6, [.ref a_t_town, .ref a_t_trial, .ref a_t_saves, .ref a_t_text, .ref a_t_reader])), (a_t_text, .inr (1, [.ref a_t_text_signs, .int v_t_text_length])), (a_t_text_signs, .inr (2, [.ref a_t_text_signs_cells])), (a_t_text_signs_cells, .inl (cA, 120, .inl f_t_text_signs_cells)), (a_t_reader, .inr (0, [.int v_t_reader_inCommand_4, .int v_t_reader_kind, .int v_t_reader_letters, .int v_t_reader_length, .int v_t_reader_number, .int v_t_reader_digits]))] H := hP
  have hD : va_D A [(a_t, .inr (6, [.ref a_t_town, .ref a_t_trial, .ref a_t_saves, .ref a_t_text, .ref a_t_reader])), (a_t_text, .inr (1, [.ref a_t_text_signs, .int v_t_text_length])), (a_t_text_signs, .inr (2, [.ref a_t_text_signs_cells])), (a_t_text_signs_cells, .inl (cA, 120, .inl f_t_text_signs_cells)), (a_t_reader, .inr (0, [.int v_t_reader_inCommand_4, .int v_t_reader_kind, .int v_t_reader_letters, .int v_t_reader_length, .int v_t_reader_number, .int v_t_reader_digits]))] := hD
  refine lv_iconst (v := 0) hx hb dX7_findFault_7 (by decide) ?_
  refine lv_istore_n (lv' := [(1, .int 0), (0, .ref a_t)]) hx hb dX7_findFault_8 rfl hl (by decide) rfl (fun ls hl => ?_)
  obtain ⟨⟨k9, y1_9, v_t_reader_inCommand_E9, v_t_reader_kind_E9, v_t_reader_letters_E9, v_t_reader_length_E9, v_t_reader_number_E9, v_t_reader_digits_E9⟩, e9, hm⟩ := bs hm
  try dsimp only at hm
  refine wX7_findFault_L9 dC dI cA a_t a_t_town a_t_trial a_t_saves a_t_text a_t_reader a_t_text_signs a_t_text_signs_cells v_t_text_length f_t_text_signs_cells  k9 y1_9 v_t_reader_inCommand_E9 v_t_reader_kind_E9 v_t_reader_letters_E9 v_t_reader_length_E9 v_t_reader_number_E9 v_t_reader_digits_E9 hx hb hml hown hts hA hK ?_ ?_ FU _ _ _ _ _ _ _ e9 _ _ (hP.sub [0, 1, 2, 3, 4] rfl) (hD.sub [0, 1, 2, 3, 4] (by decide) rfl) hS _ (lv_sub hl [1, 0] rfl)
  · intro q9 H locs hP hD hS ls hl
    rw [if_pos q9] at hm
    refine lv_iload_n hx hb dX7_findFault_38 rfl (lv_at hl 1 rfl) ?_
    cases hm
    exact mu_iret hx hb hr rfl rfl hP hD hS hK [0, 1, 2, 3, 4] rfl (by decide) dX7_findFault_39 hlocks
  · intro q9 H locs hP hD hS ls hl
    rw [if_neg (by rw [q9]; decide)] at hm
    refine lv_aload_n hx hb dX7_findFault_46 rfl (lv_at hl 0 rfl) ?_
    refine va_get (D := (dC, dI)) (ci := 6) (C := RX7) (T := TX7) (N := 5) hx hb hts iX7_findFault_X7 hown hK hP 0 rfl rfl 4 (by decide) (hts _ (List.mem_of_getElem? (i := 1) rfl)) (fun _ h9 => h9) rfl dX7_findFault_47 ?_
    refine ro_callVz ⟨hx, hb, hml, hown, hts⟩ (kX0_isBetweenCommands l dC dI cA a_t_reader v_t_reader_inCommand_E9 v_t_reader_kind_E9 v_t_reader_letters_E9 v_t_reader_length_E9 v_t_reader_number_E9 v_t_reader_digits_E9) (cwV 0 hts gX7_findFault_X0_isBetweenCommands rfl rfl rfl hdX0_isBetweenCommands ⟨Nat.le_of_ble_eq_true rfl, Nat.le_of_ble_eq_true rfl⟩) (hP.sub [4] rfl) hK rfl rfl rfl hl.1 rfl (Nat.le_of_ble_eq_true rfl) dX7_findFault_50 ⟨Nat.zero_le _, Nat.zero_le _⟩ (fun hb50 => ?_)
    refine lv_if_eq (tgt := 60) hx hb dX7_findFault_53 (by decide) (fun c53 => ?_) (fun c53 => ?_)
    · try simp only [if_pos c53] at hm
      refine lv_aload_n hx hb dX7_findFault_60 rfl (lv_at hl 0 rfl) ?_
      refine va_get (D := (dC, dI)) (ci := 6) (C := RX7) (T := TX7) (N := 5) hx hb hts iX7_findFault_X7 hown hK hP 0 rfl rfl 3 (by decide) (hts _ (List.mem_of_getElem? (i := 2) rfl)) (fun _ h9 => h9) rfl dX7_findFault_61 ?_
      refine ro_callVe ⟨hx, hb, hml, hown, hts⟩ (kX1_length l dC dI cA a_t_text a_t_text_signs v_t_text_length) (cwV 0 hts gX7_findFault_X1_length rfl rfl rfl hdX1_length ⟨Nat.le_of_ble_eq_true rfl, Nat.le_of_ble_eq_true rfl⟩) (hP.sub [1] rfl) hK rfl rfl rfl hl.1 rfl (Nat.le_of_ble_eq_true rfl) dX7_findFault_64 ⟨Nat.zero_le _, Nat.zero_le _⟩ ?_
      cases hm
      exact mu_iret hx hb hr rfl rfl hP hD hS hK [0, 1, 2, 3, 4] rfl (by decide) dX7_findFault_67 hlocks
    · try simp only [if_neg c53] at hm
      refine lv_iconst (v := (-1)) hx hb dX7_findFault_56 (by decide) ?_
      refine lv_goto (tgt := 67) hx hb dX7_findFault_57 (by decide) ?_
      cases hm
      exact mu_iret hx hb hr rfl rfl hP hD hS hK [0, 1, 2, 3, 4] rfl (by decide) dX7_findFault_67 hlocks
def mX7_canCarryOut (v_t_town_state_houses : Int32) (v_t_town_state_limit : Int32) (f_t_town_state_keys_cells : Nat → Int32) (f_t_town_state_weights_cells : Nat → Int32) (f_t_town_parents_cells : Nat → Int32) (f_t_town_children_cells : Nat → Int32) (f_t_town_namesIn_cells : Nat → Int32) (v_t_reader_kind : Int32) (v_t_reader_letters : Int32) (v_t_reader_length : Int32) (v_t_reader_number : Int32) : Option (Int32) :=
  (if (mX0_kind v_t_reader_kind) = 43 then
    ((mX5_canTakeName v_t_town_state_houses f_t_town_state_keys_cells f_t_town_state_weights_cells f_t_town_namesIn_cells (mX0_key v_t_reader_letters v_t_reader_length)).bind fun r67 =>
    some r67)
  else
    (if (mX0_kind v_t_reader_kind) = 45 then
      ((mX5_weightOf v_t_town_state_houses f_t_town_state_keys_cells f_t_town_state_weights_cells (mX0_key v_t_reader_letters v_t_reader_length)).bind fun r82 =>
      some (if r82 = (-1) then (0 : Int32) else 1))
    else
      (if (mX0_kind v_t_reader_kind) = 60 then
        ((mX5_canMove v_t_town_state_houses v_t_town_state_limit f_t_town_state_keys_cells f_t_town_state_weights_cells f_t_town_parents_cells f_t_town_children_cells (mX0_key v_t_reader_letters v_t_reader_length)).bind fun r106 =>
        some r106)
      else
        (if (mX0_kind v_t_reader_kind) = 61 then
          some (mX7_isLimit (mX0_number v_t_reader_number))
        else
          (if (mX0_kind v_t_reader_kind) = 62 then
            ((mX5_liesWithinLabel v_t_town_state_houses f_t_town_state_keys_cells (mX0_key v_t_reader_letters v_t_reader_length)).bind fun r121 =>
            some r121)
          else
            some 1)))))
abbrev rmX7_canCarryOut : Room := { frames := 5, cells := 0, slots := 0, locals := 108 }
abbrev wX7_canCarryOut (cA : ClassId) (a_t a_t_town a_t_trial a_t_saves a_t_text a_t_reader a_t_town_state a_t_town_parents a_t_town_children a_t_town_roads a_t_town_namesIn a_t_town_weightIn a_t_town_homes a_t_town_leaving a_t_town_state_keys a_t_town_state_weights a_t_town_state_keys_cells a_t_town_state_weights_cells a_t_town_parents_cells a_t_town_children_cells a_t_town_namesIn_cells : Nat) (v_t_town_state_houses v_t_town_state_limit v_t_town_state_movedIn v_t_town_state_evicted v_t_town_state_built v_t_town_state_tornDown : Int32) (f_t_town_state_keys_cells f_t_town_state_weights_cells f_t_town_parents_cells f_t_town_children_cells f_t_town_namesIn_cells : Nat → Int32) (v_t_reader_inCommand v_t_reader_kind v_t_reader_letters v_t_reader_length v_t_reader_number v_t_reader_digits : Int32) : va_W := [(a_t, .inr (6, [.ref a_t_town, .ref a_t_trial, .ref a_t_saves, .ref a_t_text, .ref a_t_reader])), (a_t_town, .inr (4, [.ref a_t_town_state, .ref a_t_town_parents, .ref a_t_town_children, .ref a_t_town_roads, .ref a_t_town_namesIn, .ref a_t_town_weightIn, .ref a_t_town_homes, .ref a_t_town_leaving])), (a_t_town_state, .inr (3, [.ref a_t_town_state_keys, .ref a_t_town_state_weights, .int v_t_town_state_houses, .int v_t_town_state_limit, .int v_t_town_state_movedIn, .int v_t_town_state_evicted, .int v_t_town_state_built, .int v_t_town_state_tornDown])), (a_t_town_state_keys, .inr (2, [.ref a_t_town_state_keys_cells])), (a_t_town_state_keys_cells, .inl (cA, 193, .inl f_t_town_state_keys_cells)), (a_t_town_state_weights, .inr (2, [.ref a_t_town_state_weights_cells])), (a_t_town_state_weights_cells, .inl (cA, 193, .inl f_t_town_state_weights_cells)), (a_t_town_parents, .inr (2, [.ref a_t_town_parents_cells])), (a_t_town_parents_cells, .inl (cA, 193, .inl f_t_town_parents_cells)), (a_t_town_children, .inr (2, [.ref a_t_town_children_cells])), (a_t_town_children_cells, .inl (cA, 193, .inl f_t_town_children_cells)), (a_t_town_namesIn, .inr (2, [.ref a_t_town_namesIn_cells])), (a_t_town_namesIn_cells, .inl (cA, 193, .inl f_t_town_namesIn_cells)), (a_t_reader, .inr (0, [.int v_t_reader_inCommand, .int v_t_reader_kind, .int v_t_reader_letters, .int v_t_reader_length, .int v_t_reader_number, .int v_t_reader_digits]))]
theorem iX7_canCarryOut_X7 : ∀ w ∈ wsX70, w ∈ wsX7_canCarryOut := (fun _ h => List.mem_cons_of_mem _ (List.mem_append_left _ (List.mem_append_left _ (List.mem_append_left _ (List.mem_append_left _ (List.mem_append_right _ h))))))
theorem hdX7_canCarryOut : yX7_canCarryOut.cls = RX7 ∧ yX7_canCarryOut.cls ≠ "java/lang/invoke/MethodHandle" ∧ yX7_canCarryOut.cls ≠ "java/lang/invoke/VarHandle" ∧ (parseMethodDescriptor yX7_canCarryOut.desc).map (fun d => d.parameters.length) = some 0 := by decide +kernel
set_option maxHeartbeats 4000000 in
set_option maxRecDepth 100000 in
theorem kX7_canCarryOut (l : Launch) (dC : Nat → ClassId) (dI : Nat → Nat → Nat) (cA : ClassId) (a_t a_t_town a_t_trial a_t_saves a_t_text a_t_reader a_t_town_state a_t_town_parents a_t_town_children a_t_town_roads a_t_town_namesIn a_t_town_weightIn a_t_town_homes a_t_town_leaving a_t_town_state_keys a_t_town_state_weights a_t_town_state_keys_cells a_t_town_state_weights_cells a_t_town_parents_cells a_t_town_children_cells a_t_town_namesIn_cells : Nat) (v_t_town_state_houses v_t_town_state_limit v_t_town_state_movedIn v_t_town_state_evicted v_t_town_state_built v_t_town_state_tornDown : Int32) (f_t_town_state_keys_cells f_t_town_state_weights_cells f_t_town_parents_cells f_t_town_children_cells f_t_town_namesIn_cells : Nat → Int32) (v_t_reader_inCommand v_t_reader_kind v_t_reader_letters v_t_reader_length v_t_reader_number v_t_reader_digits r : Int32) (hm : (mX7_canCarryOut v_t_town_state_houses v_t_town_state_limit f_t_town_state_keys_cells f_t_town_state_weights_cells f_t_town_parents_cells f_t_town_children_cells f_t_town_namesIn_cells v_t_reader_kind v_t_reader_letters v_t_reader_length v_t_reader_number) = some r) : Met l yX7_canCarryOut wsX7_canCarryOut rmX7_canCarryOut (rpc (dC, dI) [(cA, .int)] (wX7_canCarryOut cA a_t a_t_town a_t_trial a_t_saves a_t_text a_t_reader a_t_town_state a_t_town_parents a_t_town_children a_t_town_roads a_t_town_namesIn a_t_town_weightIn a_t_town_homes a_t_town_leaving a_t_town_state_keys a_t_town_state_weights a_t_town_state_keys_cells a_t_town_state_weights_cells a_t_town_parents_cells a_t_town_children_cells a_t_town_namesIn_cells v_t_town_state_houses v_t_town_state_limit v_t_town_state_movedIn v_t_town_state_evicted v_t_town_state_built v_t_town_state_tornDown f_t_town_state_keys_cells f_t_town_state_weights_cells f_t_town_parents_cells f_t_town_children_cells f_t_town_namesIn_cells v_t_reader_inCommand v_t_reader_kind v_t_reader_letters v_t_reader_length v_t_reader_number v_t_reader_digits) [.ref a_t]) (vp_Si (fun x => x = r ∧ nbr r)) 0 0 (fun _ => False) := by
  unfold mX7_canCarryOut at hm
  refine ro_ofW (cc := cX7_canCarryOut) (maxL := 1) (ret := (some .boolean)) (own := RX7) (by decide) rfl rfl (Nat.le_of_ble_eq_true rfl) ?_
  intro p e s m args below meth c hx hb hr hts hown hlocks hml hP hK ls hl
  have hl : lv_has ls 1 [(0, .ref a_t)] := hl
  have hP : va_P (dC, dI) vwCl [(a_t, .inr (6, [.ref a_t_town, .ref a_t_trial, .ref a_t_saves, .ref a_t_text, .ref a_t_reader])), (a_t_town, .inr (4, [.ref a_t_town_state, .ref a_t_town_parents, .ref a_t_town_children, .ref a_t_town_roads, .ref a_t_town_namesIn, .ref a_t_town_weightIn, .ref a_t_town_homes, .ref a_t_town_leaving])), (a_t_town_state, .inr (3, [.ref a_t_town_state_keys, .ref a_t_town_state_weights, .int v_t_town_state_houses, .int v_t_town_state_limit, .int v_t_town_state_movedIn, .int v_t_town_state_evicted, .int v_t_town_state_built, .int v_t_town_state_tornDown])), (a_t_town_state_keys, .inr (2, [.ref a_t_town_state_keys_cells])), (a_t_town_state_keys_cells, .inl (cA, 193, .inl f_t_town_state_keys_cells)), (a_t_town_state_weights, .inr (2, [.ref a_t_town_state_weights_cells])), (a_t_town_state_weights_cells, .inl (cA, 193, .inl f_t_town_state_weights_cells)), (a_t_town_parents, .inr (2, [.ref a_t_town_parents_cells])), (a_t_town_parents_cells, .inl (cA, 193, .inl f_t_town_parents_cells)), (a_t_town_children, .inr (2, [.ref a_t_town_children_cells])), (a_t_town_children_cells, .inl (cA, 193, .inl f_t_town_children_cells)), (a_t_town_namesIn, .inr (2, [.ref a_t_town_namesIn_cells])), (a_t_town_namesIn_cells, .inl (cA, 193, .inl f_t_town_namesIn_cells)), (a_t_reader, .inr (0, [.int v_t_reader_inCommand, .int v_t_reader_kind, .int v_t_reader_letters, .int v_t_reader_length, .int v_t_reader_number, .int v_t_reader_digits]))] s.heap := hP
  refine lv_aload_n hx hb dX7_canCarryOut_0 rfl (lv_at hl 0 rfl) ?_
  refine va_get (D := (dC, dI)) (ci := 6) (C := RX7) (T := TX7) (N := 5) hx hb hts iX7_canCarryOut_X7 hown hK hP 0 rfl rfl 4 (by decide) (hts _ (List.mem_of_getElem? (i := 1) rfl)) (fun _ h9 => h9) rfl dX7_canCarryOut_1 ?_
  refine ro_callVe ⟨hx, hb, hml, hown, hts⟩ (kX0_kind l dC dI cA a_t_reader v_t_reader_inCommand v_t_reader_kind v_t_reader_letters v_t_reader_length v_t_reader_number v_t_reader_digits) (cwV 0 hts gX7_canCarryOut_X0_kind rfl rfl rfl hdX0_kind ⟨Nat.le_of_ble_eq_true rfl, Nat.le_of_ble_eq_true rfl⟩) (hP.sub [13] rfl) hK rfl rfl rfl hl.1 rfl (Nat.le_of_ble_eq_true rfl) dX7_canCarryOut_4 ⟨Nat.zero_le _, Nat.zero_le _⟩ ?_
  by_cases c7_43 : (mX0_kind v_t_reader_kind) = 43
  · rw [if_pos c7_43] at hm
    refine lv_lookup (off := 49) (tgt := 56) hx hb dX7_canCarryOut_7 (by decide) (by rw [c7_43]; decide) (by decide) ?_
    refine lv_aload_n hx hb dX7_canCarryOut_56 rfl (lv_at hl 0 rfl) ?_
    refine va_get (D := (dC, dI)) (ci := 6) (C := RX7) (T := TX7) (N := 5) hx hb hts iX7_canCarryOut_X7 hown hK hP 0 rfl rfl 0 (by decide) (hts _ (List.mem_of_getElem? (i := 2) rfl)) (fun _ h9 => h9) rfl dX7_canCarryOut_57 ?_
    refine lv_aload_n hx hb dX7_canCarryOut_60 rfl (lv_at hl 0 rfl) ?_
    refine va_get (D := (dC, dI)) (ci := 6) (C := RX7) (T := TX7) (N := 5) hx hb hts iX7_canCarryOut_X7 hown hK hP 0 rfl rfl 4 (by decide) (hts _ (List.mem_of_getElem? (i := 1) rfl)) (fun _ h9 => h9) rfl dX7_canCarryOut_61 ?_
    refine ro_callVe ⟨hx, hb, hml, hown, hts⟩ (kX0_key l dC dI cA a_t_reader v_t_reader_inCommand v_t_reader_kind v_t_reader_letters v_t_reader_length v_t_reader_number v_t_reader_digits) (cwV 0 hts gX7_canCarryOut_X0_key rfl rfl rfl hdX0_key ⟨Nat.le_of_ble_eq_true rfl, Nat.le_of_ble_eq_true rfl⟩) (hP.sub [13] rfl) hK rfl rfl rfl hl.1 rfl (Nat.le_of_ble_eq_true rfl) dX7_canCarryOut_64 ⟨Nat.zero_le _, Nat.zero_le _⟩ ?_
    obtain ⟨r67, e67, hm⟩ := bs hm
    try dsimp only at hm
    refine ro_callVz ⟨hx, hb, hml, hown, hts⟩ (kX5_canTakeName l dC dI cA a_t_town a_t_town_state a_t_town_parents a_t_town_children a_t_town_roads a_t_town_namesIn a_t_town_weightIn a_t_town_homes a_t_town_leaving a_t_town_state_keys a_t_town_state_weights a_t_town_state_keys_cells a_t_town_state_weights_cells a_t_town_namesIn_cells v_t_town_state_houses v_t_town_state_limit v_t_town_state_movedIn v_t_town_state_evicted v_t_town_state_built v_t_town_state_tornDown f_t_town_state_keys_cells f_t_town_state_weights_cells f_t_town_namesIn_cells (mX0_key v_t_reader_letters v_t_reader_length) r67 e67) (cwV 1 hts gX7_canCarryOut_X5_canTakeName rfl rfl rfl hdX5_canTakeName ⟨Nat.le_of_ble_eq_true rfl, Nat.le_of_ble_eq_true rfl⟩) (hP.sub [1, 2, 3, 4, 5, 6, 11, 12] rfl) hK rfl rfl rfl hl.1 rfl (Nat.le_of_ble_eq_true rfl) dX7_canCarryOut_67 ⟨Nat.zero_le _, Nat.zero_le _⟩ (fun hb67 => ?_)
    cases hm
    exact ro_iret hx hb hr hb67 ⟨rfl, hb67⟩ dX7_canCarryOut_70 hlocks
  rw [if_neg c7_43] at hm
  by_cases c7_45 : (mX0_kind v_t_reader_kind) = 45
  · rw [if_pos c7_45] at hm
    refine lv_lookup (off := 64) (tgt := 71) hx hb dX7_canCarryOut_7 (by decide) (by rw [c7_45]; decide) (by decide) ?_
    refine lv_aload_n hx hb dX7_canCarryOut_71 rfl (lv_at hl 0 rfl) ?_
    refine va_get (D := (dC, dI)) (ci := 6) (C := RX7) (T := TX7) (N := 5) hx hb hts iX7_canCarryOut_X7 hown hK hP 0 rfl rfl 0 (by decide) (hts _ (List.mem_of_getElem? (i := 2) rfl)) (fun _ h9 => h9) rfl dX7_canCarryOut_72 ?_
    refine lv_aload_n hx hb dX7_canCarryOut_75 rfl (lv_at hl 0 rfl) ?_
    refine va_get (D := (dC, dI)) (ci := 6) (C := RX7) (T := TX7) (N := 5) hx hb hts iX7_canCarryOut_X7 hown hK hP 0 rfl rfl 4 (by decide) (hts _ (List.mem_of_getElem? (i := 1) rfl)) (fun _ h9 => h9) rfl dX7_canCarryOut_76 ?_
    refine ro_callVe ⟨hx, hb, hml, hown, hts⟩ (kX0_key l dC dI cA a_t_reader v_t_reader_inCommand v_t_reader_kind v_t_reader_letters v_t_reader_length v_t_reader_number v_t_reader_digits) (cwV 0 hts gX7_canCarryOut_X0_key rfl rfl rfl hdX0_key ⟨Nat.le_of_ble_eq_true rfl, Nat.le_of_ble_eq_true rfl⟩) (hP.sub [13] rfl) hK rfl rfl rfl hl.1 rfl (Nat.le_of_ble_eq_true rfl) dX7_canCarryOut_79 ⟨Nat.zero_le _, Nat.zero_le _⟩ ?_
    obtain ⟨r82, e82, hm⟩ := bs hm
    try dsimp only at hm
    refine ro_callVe ⟨hx, hb, hml, hown, hts⟩ (kX5_weightOf l dC dI cA a_t_town a_t_town_state a_t_town_parents a_t_town_children a_t_town_roads a_t_town_namesIn a_t_town_weightIn a_t_town_homes a_t_town_leaving a_t_town_state_keys a_t_town_state_weights a_t_town_state_keys_cells a_t_town_state_weights_cells v_t_town_state_houses v_t_town_state_limit v_t_town_state_movedIn v_t_town_state_evicted v_t_town_state_built v_t_town_state_tornDown f_t_town_state_keys_cells f_t_town_state_weights_cells (mX0_key v_t_reader_letters v_t_reader_length) r82 e82) (cwV 1 hts gX7_canCarryOut_X5_weightOf rfl rfl rfl hdX5_weightOf ⟨Nat.le_of_ble_eq_true rfl, Nat.le_of_ble_eq_true rfl⟩) (hP.sub [1, 2, 3, 4, 5, 6] rfl) hK rfl rfl rfl hl.1 rfl (Nat.le_of_ble_eq_true rfl) dX7_canCarryOut_82 ⟨Nat.zero_le _, Nat.zero_le _⟩ ?_
    refine lv_iconst (v := (-1)) hx hb dX7_canCarryOut_85 (by decide) ?_
    refine lv_icmp_eq (tgt := 93) hx hb dX7_canCarryOut_86 (by decide) (fun c86 => ?_) (fun c86 => ?_)
    · try simp only [if_pos c86] at hm
      refine lv_iconst (v := 0) hx hb dX7_canCarryOut_93 (by decide) ?_
      cases hm
      exact ro_iret hx hb hr rfl ⟨rfl, rfl⟩ dX7_canCarryOut_94 hlocks
    · try simp only [if_neg c86] at hm
      refine lv_iconst (v := 1) hx hb dX7_canCarryOut_89 (by decide) ?_
      refine lv_goto (tgt := 94) hx hb dX7_canCarryOut_90 (by decide) ?_
      cases hm
      exact ro_iret hx hb hr rfl ⟨rfl, rfl⟩ dX7_canCarryOut_94 hlocks
  rw [if_neg c7_45] at hm
  by_cases c7_60 : (mX0_kind v_t_reader_kind) = 60
  · rw [if_pos c7_60] at hm
    refine lv_lookup (off := 88) (tgt := 95) hx hb dX7_canCarryOut_7 (by decide) (by rw [c7_60]; decide) (by decide) ?_
    refine lv_aload_n hx hb dX7_canCarryOut_95 rfl (lv_at hl 0 rfl) ?_
    refine va_get (D := (dC, dI)) (ci := 6) (C := RX7) (T := TX7) (N := 5) hx hb hts iX7_canCarryOut_X7 hown hK hP 0 rfl rfl 0 (by decide) (hts _ (List.mem_of_getElem? (i := 2) rfl)) (fun _ h9 => h9) rfl dX7_canCarryOut_96 ?_
    refine lv_aload_n hx hb dX7_canCarryOut_99 rfl (lv_at hl 0 rfl) ?_
    refine va_get (D := (dC, dI)) (ci := 6) (C := RX7) (T := TX7) (N := 5) hx hb hts iX7_canCarryOut_X7 hown hK hP 0 rfl rfl 4 (by decide) (hts _ (List.mem_of_getElem? (i := 1) rfl)) (fun _ h9 => h9) rfl dX7_canCarryOut_100 ?_
    refine ro_callVe ⟨hx, hb, hml, hown, hts⟩ (kX0_key l dC dI cA a_t_reader v_t_reader_inCommand v_t_reader_kind v_t_reader_letters v_t_reader_length v_t_reader_number v_t_reader_digits) (cwV 0 hts gX7_canCarryOut_X0_key rfl rfl rfl hdX0_key ⟨Nat.le_of_ble_eq_true rfl, Nat.le_of_ble_eq_true rfl⟩) (hP.sub [13] rfl) hK rfl rfl rfl hl.1 rfl (Nat.le_of_ble_eq_true rfl) dX7_canCarryOut_103 ⟨Nat.zero_le _, Nat.zero_le _⟩ ?_
    obtain ⟨r106, e106, hm⟩ := bs hm
    try dsimp only at hm
    refine ro_callVz ⟨hx, hb, hml, hown, hts⟩ (kX5_canMove l dC dI cA a_t_town a_t_town_state a_t_town_parents a_t_town_children a_t_town_roads a_t_town_namesIn a_t_town_weightIn a_t_town_homes a_t_town_leaving a_t_town_state_keys a_t_town_state_weights a_t_town_state_keys_cells a_t_town_state_weights_cells a_t_town_parents_cells a_t_town_children_cells v_t_town_state_houses v_t_town_state_limit v_t_town_state_movedIn v_t_town_state_evicted v_t_town_state_built v_t_town_state_tornDown f_t_town_state_keys_cells f_t_town_state_weights_cells f_t_town_parents_cells f_t_town_children_cells (mX0_key v_t_reader_letters v_t_reader_length) r106 e106) (cwV 1 hts gX7_canCarryOut_X5_canMove rfl rfl rfl hdX5_canMove ⟨Nat.le_of_ble_eq_true rfl, Nat.le_of_ble_eq_true rfl⟩) (hP.sub [1, 2, 3, 4, 5, 6, 7, 8, 9, 10] rfl) hK rfl rfl rfl hl.1 rfl (Nat.le_of_ble_eq_true rfl) dX7_canCarryOut_106 ⟨Nat.zero_le _, Nat.zero_le _⟩ (fun hb106 => ?_)
    cases hm
    exact ro_iret hx hb hr hb106 ⟨rfl, hb106⟩ dX7_canCarryOut_109 hlocks
  rw [if_neg c7_60] at hm
  by_cases c7_61 : (mX0_kind v_t_reader_kind) = 61
  · rw [if_pos c7_61] at hm
    refine lv_lookup (off := 118) (tgt := 125) hx hb dX7_canCarryOut_7 (by decide) (by rw [c7_61]; decide) (by decide) ?_
    refine lv_aload_n hx hb dX7_canCarryOut_125 rfl (lv_at hl 0 rfl) ?_
    refine va_get (D := (dC, dI)) (ci := 6) (C := RX7) (T := TX7) (N := 5) hx hb hts iX7_canCarryOut_X7 hown hK hP 0 rfl rfl 4 (by decide) (hts _ (List.mem_of_getElem? (i := 1) rfl)) (fun _ h9 => h9) rfl dX7_canCarryOut_126 ?_
    refine ro_callVe ⟨hx, hb, hml, hown, hts⟩ (kX0_number l dC dI cA a_t_reader v_t_reader_inCommand v_t_reader_kind v_t_reader_letters v_t_reader_length v_t_reader_number v_t_reader_digits) (cwV 0 hts gX7_canCarryOut_X0_number rfl rfl rfl hdX0_number ⟨Nat.le_of_ble_eq_true rfl, Nat.le_of_ble_eq_true rfl⟩) (hP.sub [13] rfl) hK rfl rfl rfl hl.1 rfl (Nat.le_of_ble_eq_true rfl) dX7_canCarryOut_129 ⟨Nat.zero_le _, Nat.zero_le _⟩ ?_
    refine sp_callSz ⟨hx, hb, hml, hown, hts⟩ (kX7_isLimit l (mX0_number v_t_reader_number)) (va_cwS 1 hts gX7_canCarryOut_X7_isLimit rfl rfl rfl hdX7_isLimit.2 ⟨Nat.le_of_ble_eq_true rfl, Nat.le_of_ble_eq_true rfl⟩) rfl hl.1 rfl (Nat.le_of_ble_eq_true rfl) dX7_canCarryOut_132 ⟨Nat.zero_le _, Nat.zero_le _⟩ (fun hb132 => ?_)
    cases hm
    exact ro_iret hx hb hr hb132 ⟨rfl, hb132⟩ dX7_canCarryOut_135 hlocks
  rw [if_neg c7_61] at hm
  by_cases c7_62 : (mX0_kind v_t_reader_kind) = 62
  · rw [if_pos c7_62] at hm
    refine lv_lookup (off := 103) (tgt := 110) hx hb dX7_canCarryOut_7 (by decide) (by rw [c7_62]; decide) (by decide) ?_
    refine lv_aload_n hx hb dX7_canCarryOut_110 rfl (lv_at hl 0 rfl) ?_
    refine va_get (D := (dC, dI)) (ci := 6) (C := RX7) (T := TX7) (N := 5) hx hb hts iX7_canCarryOut_X7 hown hK hP 0 rfl rfl 0 (by decide) (hts _ (List.mem_of_getElem? (i := 2) rfl)) (fun _ h9 => h9) rfl dX7_canCarryOut_111 ?_
    refine lv_aload_n hx hb dX7_canCarryOut_114 rfl (lv_at hl 0 rfl) ?_
    refine va_get (D := (dC, dI)) (ci := 6) (C := RX7) (T := TX7) (N := 5) hx hb hts iX7_canCarryOut_X7 hown hK hP 0 rfl rfl 4 (by decide) (hts _ (List.mem_of_getElem? (i := 1) rfl)) (fun _ h9 => h9) rfl dX7_canCarryOut_115 ?_
    refine ro_callVe ⟨hx, hb, hml, hown, hts⟩ (kX0_key l dC dI cA a_t_reader v_t_reader_inCommand v_t_reader_kind v_t_reader_letters v_t_reader_length v_t_reader_number v_t_reader_digits) (cwV 0 hts gX7_canCarryOut_X0_key rfl rfl rfl hdX0_key ⟨Nat.le_of_ble_eq_true rfl, Nat.le_of_ble_eq_true rfl⟩) (hP.sub [13] rfl) hK rfl rfl rfl hl.1 rfl (Nat.le_of_ble_eq_true rfl) dX7_canCarryOut_118 ⟨Nat.zero_le _, Nat.zero_le _⟩ ?_
    obtain ⟨r121, e121, hm⟩ := bs hm
    try dsimp only at hm
    refine ro_callVz ⟨hx, hb, hml, hown, hts⟩ (kX5_liesWithinLabel l dC dI cA a_t_town a_t_town_state a_t_town_parents a_t_town_children a_t_town_roads a_t_town_namesIn a_t_town_weightIn a_t_town_homes a_t_town_leaving a_t_town_state_keys a_t_town_state_weights a_t_town_state_keys_cells v_t_town_state_houses v_t_town_state_limit v_t_town_state_movedIn v_t_town_state_evicted v_t_town_state_built v_t_town_state_tornDown f_t_town_state_keys_cells (mX0_key v_t_reader_letters v_t_reader_length) r121 e121) (cwV 1 hts gX7_canCarryOut_X5_liesWithinLabel rfl rfl rfl hdX5_liesWithinLabel ⟨Nat.le_of_ble_eq_true rfl, Nat.le_of_ble_eq_true rfl⟩) (hP.sub [1, 2, 3, 4] rfl) hK rfl rfl rfl hl.1 rfl (Nat.le_of_ble_eq_true rfl) dX7_canCarryOut_121 ⟨Nat.zero_le _, Nat.zero_le _⟩ (fun hb121 => ?_)
    cases hm
    exact ro_iret hx hb hr hb121 ⟨rfl, hb121⟩ dX7_canCarryOut_124 hlocks
  rw [if_neg c7_62] at hm
  refine lv_lookup (off := 129) (tgt := 136) hx hb dX7_canCarryOut_7 (by decide) ((lv_osw c7_43 (by decide)).trans ((lv_osw c7_45 (by decide)).trans ((lv_osw c7_60 (by decide)).trans ((lv_osw c7_61 (by decide)).trans ((lv_osw c7_62 (by decide)).trans rfl))))) (by decide) ?_
  refine lv_iconst (v := 1) hx hb dX7_canCarryOut_136 (by decide) ?_
  cases hm
  exact ro_iret hx hb hr rfl ⟨rfl, rfl⟩ dX7_canCarryOut_137 hlocks
def mX7_carryOut (v_t_town_state_houses : Int32) (v_t_town_state_limit : Int32) (v_t_town_state_movedIn : Int32) (v_t_town_state_evicted : Int32) (v_t_town_state_built : Int32) (v_t_town_state_tornDown : Int32) (f_t_town_state_keys_cells : Nat → Int32) (f_t_town_state_weights_cells : Nat → Int32) (f_t_town_parents_cells : Nat → Int32) (f_t_town_children_cells : Nat → Int32) (f_t_town_roads_cells : Nat → Int32) (f_t_town_namesIn_cells : Nat → Int32) (f_t_town_weightIn_cells : Nat → Int32) (f_t_town_homes_cells : Nat → Int32) (f_t_town_leaving_cells : Nat → Int32) (v_t_reader_kind : Int32) (v_t_reader_letters : Int32) (v_t_reader_length : Int32) (v_t_reader_number : Int32) : Option (Int32 × Int32 × Int32 × Int32 × Int32 × Int32 × (Nat → Int32) × (Nat → Int32) × (Nat → Int32) × (Nat → Int32) × (Nat → Int32) × (Nat → Int32) × (Nat → Int32) × (Nat → Int32) × (Nat → Int32)) :=
  (if (mX0_kind v_t_reader_kind) = 43 then
    ((mX5_takeName v_t_town_state_houses v_t_town_state_evicted v_t_town_state_built f_t_town_state_keys_cells f_t_town_state_weights_cells f_t_town_parents_cells f_t_town_children_cells f_t_town_roads_cells f_t_town_namesIn_cells f_t_town_weightIn_cells f_t_town_homes_cells (mX0_key v_t_reader_letters v_t_reader_length) (mX0_number v_t_reader_number)).bind fun (r74, v_t_town_state_houses_74, v_t_town_state_evicted_74, v_t_town_state_built_74, f_t_town_state_keys_cells_74, f_t_town_state_weights_cells_74, f_t_town_parents_cells_74, f_t_town_children_cells_74, f_t_town_roads_cells_74, f_t_town_namesIn_cells_74, f_t_town_weightIn_cells_74, f_t_town_homes_cells_74) =>
    some (v_t_town_state_houses_74, v_t_town_state_limit, v_t_town_state_movedIn, v_t_town_state_evicted_74, v_t_town_state_built_74, v_t_town_state_tornDown, f_t_town_state_keys_cells_74, f_t_town_state_weights_cells_74, f_t_town_parents_cells_74, f_t_town_children_cells_74, f_t_town_roads_cells_74, f_t_town_namesIn_cells_74, f_t_town_weightIn_cells_74, f_t_town_homes_cells_74, f_t_town_leaving_cells))
  else
    (if (mX0_kind v_t_reader_kind) = 45 then
      ((mX5_dropName v_t_town_state_houses v_t_town_state_tornDown f_t_town_state_keys_cells f_t_town_state_weights_cells f_t_town_parents_cells f_t_town_children_cells f_t_town_roads_cells f_t_town_namesIn_cells f_t_town_weightIn_cells f_t_town_homes_cells (mX0_key v_t_reader_letters v_t_reader_length)).bind fun (r92, v_t_town_state_houses_92, v_t_town_state_tornDown_92, f_t_town_state_keys_cells_92, f_t_town_state_weights_cells_92, f_t_town_parents_cells_92, f_t_town_children_cells_92, f_t_town_roads_cells_92, f_t_town_namesIn_cells_92, f_t_town_weightIn_cells_92, f_t_town_homes_cells_92) =>
      some (v_t_town_state_houses_92, v_t_town_state_limit, v_t_town_state_movedIn, v_t_town_state_evicted, v_t_town_state_built, v_t_town_state_tornDown_92, f_t_town_state_keys_cells_92, f_t_town_state_weights_cells_92, f_t_town_parents_cells_92, f_t_town_children_cells_92, f_t_town_roads_cells_92, f_t_town_namesIn_cells_92, f_t_town_weightIn_cells_92, f_t_town_homes_cells_92, f_t_town_leaving_cells))
    else
      (if (mX0_kind v_t_reader_kind) = 60 then
        ((mX5_move v_t_town_state_houses v_t_town_state_movedIn f_t_town_state_keys_cells f_t_town_state_weights_cells f_t_town_parents_cells f_t_town_children_cells f_t_town_roads_cells f_t_town_namesIn_cells f_t_town_weightIn_cells f_t_town_homes_cells (mX0_key v_t_reader_letters v_t_reader_length)).bind fun (r110, v_t_town_state_houses_110, v_t_town_state_movedIn_110, f_t_town_state_keys_cells_110, f_t_town_state_weights_cells_110, f_t_town_parents_cells_110, f_t_town_children_cells_110, f_t_town_roads_cells_110, f_t_town_namesIn_cells_110, f_t_town_weightIn_cells_110, f_t_town_homes_cells_110) =>
        some (v_t_town_state_houses_110, v_t_town_state_limit, v_t_town_state_movedIn_110, v_t_town_state_evicted, v_t_town_state_built, v_t_town_state_tornDown, f_t_town_state_keys_cells_110, f_t_town_state_weights_cells_110, f_t_town_parents_cells_110, f_t_town_children_cells_110, f_t_town_roads_cells_110, f_t_town_namesIn_cells_110, f_t_town_weightIn_cells_110, f_t_town_homes_cells_110, f_t_town_leaving_cells))
      else
        (if (mX0_kind v_t_reader_kind) = 61 then
          ((mX5_changeLimit v_t_town_state_limit (mX0_number v_t_reader_number)).bind fun (r146, v_t_town_state_limit_146) =>
          some (v_t_town_state_houses, v_t_town_state_limit_146, v_t_town_state_movedIn, v_t_town_state_evicted, v_t_town_state_built, v_t_town_state_tornDown, f_t_town_state_keys_cells, f_t_town_state_weights_cells, f_t_town_parents_cells, f_t_town_children_cells, f_t_town_roads_cells, f_t_town_namesIn_cells, f_t_town_weightIn_cells, f_t_town_homes_cells, f_t_town_leaving_cells))
        else
          (if (mX0_kind v_t_reader_kind) = 62 then
            ((mX5_part v_t_town_state_houses v_t_town_state_evicted f_t_town_state_keys_cells f_t_town_state_weights_cells f_t_town_parents_cells f_t_town_children_cells f_t_town_roads_cells f_t_town_namesIn_cells f_t_town_weightIn_cells f_t_town_homes_cells (mX0_key v_t_reader_letters v_t_reader_length)).bind fun (r128, v_t_town_state_houses_128, v_t_town_state_evicted_128, f_t_town_state_keys_cells_128, f_t_town_state_weights_cells_128, f_t_town_parents_cells_128, f_t_town_children_cells_128, f_t_town_roads_cells_128, f_t_town_namesIn_cells_128, f_t_town_weightIn_cells_128, f_t_town_homes_cells_128) =>
            some (v_t_town_state_houses_128, v_t_town_state_limit, v_t_town_state_movedIn, v_t_town_state_evicted_128, v_t_town_state_built, v_t_town_state_tornDown, f_t_town_state_keys_cells_128, f_t_town_state_weights_cells_128, f_t_town_parents_cells_128, f_t_town_children_cells_128, f_t_town_roads_cells_128, f_t_town_namesIn_cells_128, f_t_town_weightIn_cells_128, f_t_town_homes_cells_128, f_t_town_leaving_cells))
          else
            ((mX5_moveAll v_t_town_state_houses v_t_town_state_limit v_t_town_state_movedIn f_t_town_state_keys_cells f_t_town_state_weights_cells f_t_town_parents_cells f_t_town_children_cells f_t_town_roads_cells f_t_town_namesIn_cells f_t_town_weightIn_cells f_t_town_homes_cells f_t_town_leaving_cells).bind fun (r157, v_t_town_state_houses_157, v_t_town_state_movedIn_157, f_t_town_state_keys_cells_157, f_t_town_state_weights_cells_157, f_t_town_parents_cells_157, f_t_town_children_cells_157, f_t_town_roads_cells_157, f_t_town_namesIn_cells_157, f_t_town_weightIn_cells_157, f_t_town_homes_cells_157, f_t_town_leaving_cells_157) =>
            some (v_t_town_state_houses_157, v_t_town_state_limit, v_t_town_state_movedIn_157, v_t_town_state_evicted, v_t_town_state_built, v_t_town_state_tornDown, f_t_town_state_keys_cells_157, f_t_town_state_weights_cells_157, f_t_town_parents_cells_157, f_t_town_children_cells_157, f_t_town_roads_cells_157, f_t_town_namesIn_cells_157, f_t_town_weightIn_cells_157, f_t_town_homes_cells_157, f_t_town_leaving_cells_157)))))))
abbrev rmX7_carryOut : Room := { frames := 5, cells := 0, slots := 0, locals := 115 }
abbrev wX7_carryOut (cA : ClassId) (a_t a_t_town a_t_trial a_t_saves a_t_text a_t_reader a_t_town_state a_t_town_parents a_t_town_children a_t_town_roads a_t_town_namesIn a_t_town_weightIn a_t_town_homes a_t_town_leaving a_t_town_state_keys a_t_town_state_weights a_t_town_state_keys_cells a_t_town_state_weights_cells a_t_town_parents_cells a_t_town_children_cells a_t_town_roads_cells a_t_town_namesIn_cells a_t_town_weightIn_cells a_t_town_homes_cells a_t_town_leaving_cells : Nat) (v_t_town_state_houses v_t_town_state_limit v_t_town_state_movedIn v_t_town_state_evicted v_t_town_state_built v_t_town_state_tornDown : Int32) (f_t_town_state_keys_cells f_t_town_state_weights_cells f_t_town_parents_cells f_t_town_children_cells f_t_town_roads_cells f_t_town_namesIn_cells f_t_town_weightIn_cells f_t_town_homes_cells f_t_town_leaving_cells : Nat → Int32) (v_t_reader_inCommand v_t_reader_kind v_t_reader_letters v_t_reader_length v_t_reader_number v_t_reader_digits : Int32) : va_W := [(a_t, .inr (6, [.ref a_t_town, .ref a_t_trial, .ref a_t_saves, .ref a_t_text, .ref a_t_reader])), (a_t_town, .inr (4, [.ref a_t_town_state, .ref a_t_town_parents, .ref a_t_town_children, .ref a_t_town_roads, .ref a_t_town_namesIn, .ref a_t_town_weightIn, .ref a_t_town_homes, .ref a_t_town_leaving])), (a_t_town_state, .inr (3, [.ref a_t_town_state_keys, .ref a_t_town_state_weights, .int v_t_town_state_houses, .int v_t_town_state_limit, .int v_t_town_state_movedIn, .int v_t_town_state_evicted, .int v_t_town_state_built, .int v_t_town_state_tornDown])), (a_t_town_state_keys, .inr (2, [.ref a_t_town_state_keys_cells])), (a_t_town_state_keys_cells, .inl (cA, 193, .inl f_t_town_state_keys_cells)), (a_t_town_state_weights, .inr (2, [.ref a_t_town_state_weights_cells])), (a_t_town_state_weights_cells, .inl (cA, 193, .inl f_t_town_state_weights_cells)), (a_t_town_parents, .inr (2, [.ref a_t_town_parents_cells])), (a_t_town_parents_cells, .inl (cA, 193, .inl f_t_town_parents_cells)), (a_t_town_children, .inr (2, [.ref a_t_town_children_cells])), (a_t_town_children_cells, .inl (cA, 193, .inl f_t_town_children_cells)), (a_t_town_roads, .inr (2, [.ref a_t_town_roads_cells])), (a_t_town_roads_cells, .inl (cA, 193, .inl f_t_town_roads_cells)), (a_t_town_namesIn, .inr (2, [.ref a_t_town_namesIn_cells])), (a_t_town_namesIn_cells, .inl (cA, 193, .inl f_t_town_namesIn_cells)), (a_t_town_weightIn, .inr (2, [.ref a_t_town_weightIn_cells])), (a_t_town_weightIn_cells, .inl (cA, 193, .inl f_t_town_weightIn_cells)), (a_t_town_homes, .inr (2, [.ref a_t_town_homes_cells])), (a_t_town_homes_cells, .inl (cA, 24, .inl f_t_town_homes_cells)), (a_t_town_leaving, .inr (2, [.ref a_t_town_leaving_cells])), (a_t_town_leaving_cells, .inl (cA, 193, .inl f_t_town_leaving_cells)), (a_t_reader, .inr (0, [.int v_t_reader_inCommand, .int v_t_reader_kind, .int v_t_reader_letters, .int v_t_reader_length, .int v_t_reader_number, .int v_t_reader_digits]))]
theorem iX7_carryOut_X7 : ∀ w ∈ wsX70, w ∈ wsX7_carryOut := (fun _ h => List.mem_cons_of_mem _ (List.mem_append_left _ (List.mem_append_left _ (List.mem_append_left _ (List.mem_append_left _ (List.mem_append_right _ h))))))
theorem hdX7_carryOut : yX7_carryOut.cls = RX7 ∧ yX7_carryOut.cls ≠ "java/lang/invoke/MethodHandle" ∧ yX7_carryOut.cls ≠ "java/lang/invoke/VarHandle" ∧ (parseMethodDescriptor yX7_carryOut.desc).map (fun d => d.parameters.length) = some 0 := by decide +kernel
set_option maxHeartbeats 4000000 in
set_option maxRecDepth 100000 in
theorem kX7_carryOut (l : Launch) (dC : Nat → ClassId) (dI : Nat → Nat → Nat) (cA : ClassId) (a_t a_t_town a_t_trial a_t_saves a_t_text a_t_reader a_t_town_state a_t_town_parents a_t_town_children a_t_town_roads a_t_town_namesIn a_t_town_weightIn a_t_town_homes a_t_town_leaving a_t_town_state_keys a_t_town_state_weights a_t_town_state_keys_cells a_t_town_state_weights_cells a_t_town_parents_cells a_t_town_children_cells a_t_town_roads_cells a_t_town_namesIn_cells a_t_town_weightIn_cells a_t_town_homes_cells a_t_town_leaving_cells : Nat) (v_t_town_state_houses v_t_town_state_limit v_t_town_state_movedIn v_t_town_state_evicted v_t_town_state_built v_t_town_state_tornDown : Int32) (f_t_town_state_keys_cells f_t_town_state_weights_cells f_t_town_parents_cells f_t_town_children_cells f_t_town_roads_cells f_t_town_namesIn_cells f_t_town_weightIn_cells f_t_town_homes_cells f_t_town_leaving_cells : Nat → Int32) (v_t_reader_inCommand v_t_reader_kind v_t_reader_letters v_t_reader_length v_t_reader_number v_t_reader_digits : Int32) (sz : Nat) (o_v_t_town_state_houses o_v_t_town_state_limit o_v_t_town_state_movedIn o_v_t_town_state_evicted o_v_t_town_state_built o_v_t_town_state_tornDown : Int32) (o_f_t_town_state_keys_cells o_f_t_town_state_weights_cells o_f_t_town_parents_cells o_f_t_town_children_cells o_f_t_town_roads_cells o_f_t_town_namesIn_cells o_f_t_town_weightIn_cells o_f_t_town_homes_cells o_f_t_town_leaving_cells : Nat → Int32) (hm : (mX7_carryOut v_t_town_state_houses v_t_town_state_limit v_t_town_state_movedIn v_t_town_state_evicted v_t_town_state_built v_t_town_state_tornDown f_t_town_state_keys_cells f_t_town_state_weights_cells f_t_town_parents_cells f_t_town_children_cells f_t_town_roads_cells f_t_town_namesIn_cells f_t_town_weightIn_cells f_t_town_homes_cells f_t_town_leaving_cells v_t_reader_kind v_t_reader_letters v_t_reader_length v_t_reader_number) = some (o_v_t_town_state_houses, o_v_t_town_state_limit, o_v_t_town_state_movedIn, o_v_t_town_state_evicted, o_v_t_town_state_built, o_v_t_town_state_tornDown, o_f_t_town_state_keys_cells, o_f_t_town_state_weights_cells, o_f_t_town_parents_cells, o_f_t_town_children_cells, o_f_t_town_roads_cells, o_f_t_town_namesIn_cells, o_f_t_town_weightIn_cells, o_f_t_town_homes_cells, o_f_t_town_leaving_cells)) : Met l yX7_carryOut wsX7_carryOut rmX7_carryOut (mpc (dC, dI) [(cA, .int)] (wX7_carryOut cA a_t a_t_town a_t_trial a_t_saves a_t_text a_t_reader a_t_town_state a_t_town_parents a_t_town_children a_t_town_roads a_t_town_namesIn a_t_town_weightIn a_t_town_homes a_t_town_leaving a_t_town_state_keys a_t_town_state_weights a_t_town_state_keys_cells a_t_town_state_weights_cells a_t_town_parents_cells a_t_town_children_cells a_t_town_roads_cells a_t_town_namesIn_cells a_t_town_weightIn_cells a_t_town_homes_cells a_t_town_leaving_cells v_t_town_state_houses v_t_town_state_limit v_t_town_state_movedIn v_t_town_state_evicted v_t_town_state_built v_t_town_state_tornDown f_t_town_state_keys_cells f_t_town_state_weights_cells f_t_town_parents_cells f_t_town_children_cells f_t_town_roads_cells f_t_town_namesIn_cells f_t_town_weightIn_cells f_t_town_homes_cells f_t_town_leaving_cells v_t_reader_inCommand v_t_reader_kind v_t_reader_letters v_t_reader_length v_t_reader_number v_t_reader_digits) [.ref a_t] sz) (mqv (dC, dI) [(cA, .int)] (va_A (wX7_carryOut cA a_t a_t_town a_t_trial a_t_saves a_t_text a_t_reader a_t_town_state a_t_town_parents a_t_town_children a_t_town_roads a_t_town_namesIn a_t_town_weightIn a_t_town_homes a_t_town_leaving a_t_town_state_keys a_t_town_state_weights a_t_town_state_keys_cells a_t_town_state_weights_cells a_t_town_parents_cells a_t_town_children_cells a_t_town_roads_cells a_t_town_namesIn_cells a_t_town_weightIn_cells a_t_town_homes_cells a_t_town_leaving_cells v_t_town_state_houses v_t_town_state_limit v_t_town_state_movedIn v_t_town_state_evicted v_t_town_state_built v_t_town_state_tornDown f_t_town_state_keys_cells f_t_town_state_weights_cells f_t_town_parents_cells f_t_town_children_cells f_t_town_roads_cells f_t_town_namesIn_cells f_t_town_weightIn_cells f_t_town_homes_cells f_t_town_leaving_cells v_t_reader_inCommand v_t_reader_kind v_t_reader_letters v_t_reader_length v_t_reader_number v_t_reader_digits) sz) (wX7_carryOut cA a_t a_t_town a_t_trial a_t_saves a_t_text a_t_reader a_t_town_state a_t_town_parents a_t_town_children a_t_town_roads a_t_town_namesIn a_t_town_weightIn a_t_town_homes a_t_town_leaving a_t_town_state_keys a_t_town_state_weights a_t_town_state_keys_cells a_t_town_state_weights_cells a_t_town_parents_cells a_t_town_children_cells a_t_town_roads_cells a_t_town_namesIn_cells a_t_town_weightIn_cells a_t_town_homes_cells a_t_town_leaving_cells o_v_t_town_state_houses o_v_t_town_state_limit o_v_t_town_state_movedIn o_v_t_town_state_evicted o_v_t_town_state_built o_v_t_town_state_tornDown o_f_t_town_state_keys_cells o_f_t_town_state_weights_cells o_f_t_town_parents_cells o_f_t_town_children_cells o_f_t_town_roads_cells o_f_t_town_namesIn_cells o_f_t_town_weightIn_cells o_f_t_town_homes_cells o_f_t_town_leaving_cells v_t_reader_inCommand v_t_reader_kind v_t_reader_letters v_t_reader_length v_t_reader_number v_t_reader_digits)) 0 0 (va_A (wX7_carryOut cA a_t a_t_town a_t_trial a_t_saves a_t_text a_t_reader a_t_town_state a_t_town_parents a_t_town_children a_t_town_roads a_t_town_namesIn a_t_town_weightIn a_t_town_homes a_t_town_leaving a_t_town_state_keys a_t_town_state_weights a_t_town_state_keys_cells a_t_town_state_weights_cells a_t_town_parents_cells a_t_town_children_cells a_t_town_roads_cells a_t_town_namesIn_cells a_t_town_weightIn_cells a_t_town_homes_cells a_t_town_leaving_cells v_t_town_state_houses v_t_town_state_limit v_t_town_state_movedIn v_t_town_state_evicted v_t_town_state_built v_t_town_state_tornDown f_t_town_state_keys_cells f_t_town_state_weights_cells f_t_town_parents_cells f_t_town_children_cells f_t_town_roads_cells f_t_town_namesIn_cells f_t_town_weightIn_cells f_t_town_homes_cells f_t_town_leaving_cells v_t_reader_inCommand v_t_reader_kind v_t_reader_letters v_t_reader_length v_t_reader_number v_t_reader_digits) sz) := by
  unfold mX7_carryOut at hm
  refine mu_ofW (Qc := fun A => mqv (dC, dI) [(cA, .int)] A (wX7_carryOut cA a_t a_t_town a_t_trial a_t_saves a_t_text a_t_reader a_t_town_state a_t_town_parents a_t_town_children a_t_town_roads a_t_town_namesIn a_t_town_weightIn a_t_town_homes a_t_town_leaving a_t_town_state_keys a_t_town_state_weights a_t_town_state_keys_cells a_t_town_state_weights_cells a_t_town_parents_cells a_t_town_children_cells a_t_town_roads_cells a_t_town_namesIn_cells a_t_town_weightIn_cells a_t_town_homes_cells a_t_town_leaving_cells o_v_t_town_state_houses o_v_t_town_state_limit o_v_t_town_state_movedIn o_v_t_town_state_evicted o_v_t_town_state_built o_v_t_town_state_tornDown o_f_t_town_state_keys_cells o_f_t_town_state_weights_cells o_f_t_town_parents_cells o_f_t_town_children_cells o_f_t_town_roads_cells o_f_t_town_namesIn_cells o_f_t_town_weightIn_cells o_f_t_town_homes_cells o_f_t_town_leaving_cells v_t_reader_inCommand v_t_reader_kind v_t_reader_letters v_t_reader_length v_t_reader_number v_t_reader_digits)) (cc := cX7_carryOut) (maxL := 1) (ret := none) (own := RX7) (by decide) rfl rfl (Nat.le_of_ble_eq_true rfl) ?_
  intro p e s m args below meth c hx hb hr hts hown hlocks hml hin A hA hP hD hS hK ls hl
  have hl : lv_has ls 1 [(0, .ref a_t)] := hl
  have hP : va_P (dC, dI) vwCl [(a_t, .inr (6, [.ref a_t_town, .ref a_t_trial, .ref a_t_saves, .ref a_t_text, .ref a_t_reader])), (a_t_town, .inr (4, [.ref a_t_town_state, .ref a_t_town_parents, .ref a_t_town_children, .ref a_t_town_roads, .ref a_t_town_namesIn, .ref a_t_town_weightIn, .ref a_t_town_homes, .ref a_t_town_leaving])), (a_t_town_state, .inr (3, [.ref a_t_town_state_keys, .ref a_t_town_state_weights, .int v_t_town_state_houses, .int v_t_town_state_limit, .int v_t_town_state_movedIn, .int v_t_town_state_evicted, .int v_t_town_state_built, .int v_t_town_state_tornDown])), (a_t_town_state_keys, .inr (2, [.ref a_t_town_state_keys_cells])), (a_t_town_state_keys_cells, .inl (cA, 193, .inl f_t_town_state_keys_cells)), (a_t_town_state_weights, .inr (2, [.ref a_t_town_state_weights_cells])), (a_t_town_state_weights_cells, .inl (cA, 193, .inl f_t_town_state_weights_cells)), (a_t_town_parents, .inr (2, [.ref a_t_town_parents_cells])), (a_t_town_parents_cells, .inl (cA, 193, .inl f_t_town_parents_cells)), (a_t_town_children, .inr (2, [.ref a_t_town_children_cells])), (a_t_town_children_cells, .inl (cA, 193, .inl f_t_town_children_cells)), (a_t_town_roads, .inr (2, [.ref a_t_town_roads_cells])), (a_t_town_roads_cells, .inl (cA, 193, .inl f_t_town_roads_cells)), (a_t_town_namesIn, .inr (2, [.ref a_t_town_namesIn_cells])), (a_t_town_namesIn_cells, .inl (cA, 193, .inl f_t_town_namesIn_cells)), (a_t_town_weightIn, .inr (2, [.ref a_t_town_weightIn_cells])), (a_t_town_weightIn_cells, .inl (cA, 193, .inl f_t_town_weightIn_cells)), (a_t_town_homes, .inr (2, [.ref a_t_town_homes_cells])), (a_t_town_homes_cells, .inl (cA, 24, .inl f_t_town_homes_cells)), (a_t_town_leaving, .inr (2, [.ref a_t_town_leaving_cells])), (a_t_town_leaving_cells, .inl (cA, 193, .inl f_t_town_leaving_cells)), (a_t_reader, .inr (0, [.int v_t_reader_inCommand, .int v_t_reader_kind, .int v_t_reader_letters, .int v_t_reader_length, .int v_t_reader_number, .int v_t_reader_digits]))] s.heap := hP
  have hD : va_D A [(a_t, .inr (6, [.ref a_t_town, .ref a_t_trial, .ref a_t_saves, .ref a_t_text, .ref a_t_reader])), (a_t_town, .inr (4, [.ref a_t_town_state, .ref a_t_town_parents, .ref a_t_town_children, .ref a_t_town_roads, .ref a_t_town_namesIn, .ref a_t_town_weightIn, .ref a_t_town_homes, .ref a_t_town_leaving])), (a_t_town_state, .inr (3, [.ref a_t_town_state_keys, .ref a_t_town_state_weights, .int v_t_town_state_houses, .int v_t_town_state_limit, .int v_t_town_state_movedIn, .int v_t_town_state_evicted, .int v_t_town_state_built, .int v_t_town_state_tornDown])), (a_t_town_state_keys, .inr (2, [.ref a_t_town_state_keys_cells])), (a_t_town_state_keys_cells, .inl (cA, 193, .inl f_t_town_state_keys_cells)), (a_t_town_state_weights, .inr (2, [.ref a_t_town_state_weights_cells])), (a_t_town_state_weights_cells, .inl (cA, 193, .inl f_t_town_state_weights_cells)), (a_t_town_parents, .inr (2, [.ref a_t_town_parents_cells])), (a_t_town_parents_cells, .inl (cA, 193, .inl f_t_town_parents_cells)), (a_t_town_children, .inr (2, [.ref a_t_town_children_cells])), (a_t_town_children_cells, .inl (cA, 193, .inl f_t_town_children_cells)), (a_t_town_roads, .inr (2, [.ref a_t_town_roads_cells])), (a_t_town_roads_cells, .inl (cA, 193, .inl f_t_town_roads_cells)), (a_t_town_namesIn, .inr (2, [.ref a_t_town_namesIn_cells])), (a_t_town_namesIn_cells, .inl (cA, 193, .inl f_t_town_namesIn_cells)), (a_t_town_weightIn, .inr (2, [.ref a_t_town_weightIn_cells])), (a_t_town_weightIn_cells, .inl (cA, 193, .inl f_t_town_weightIn_cells)), (a_t_town_homes, .inr (2, [.ref a_t_town_homes_cells])), (a_t_town_homes_cells, .inl (cA, 24, .inl f_t_town_homes_cells)), (a_t_town_leaving, .inr (2, [.ref a_t_town_leaving_cells])), (a_t_town_leaving_cells, .inl (cA, 193, .inl f_t_town_leaving_cells)), (a_t_reader, .inr (0, [.int v_t_reader_inCommand, .int v_t_reader_kind, .int v_t_reader_letters, .int v_t_reader_length, .int v_t_reader_number, .int v_t_reader_digits]))] := hD
  refine lv_aload_n hx hb dX7_carryOut_0 rfl (lv_at hl 0 rfl) ?_
  refine va_get (D := (dC, dI)) (ci := 6) (C := RX7) (T := TX7) (N := 5) hx hb hts iX7_carryOut_X7 hown hK hP 0 rfl rfl 4 (by decide) (hts _ (List.mem_of_getElem? (i := 1) rfl)) (fun _ h9 => h9) rfl dX7_carryOut_1 ?_
  refine ro_callVe ⟨hx, hb, hml, hown, hts⟩ (kX0_kind l dC dI cA a_t_reader v_t_reader_inCommand v_t_reader_kind v_t_reader_letters v_t_reader_length v_t_reader_number v_t_reader_digits) (cwV 0 hts gX7_carryOut_X0_kind rfl rfl rfl hdX0_kind ⟨Nat.le_of_ble_eq_true rfl, Nat.le_of_ble_eq_true rfl⟩) (hP.sub [21] rfl) hK rfl rfl rfl hl.1 rfl (Nat.le_of_ble_eq_true rfl) dX7_carryOut_4 ⟨Nat.zero_le _, Nat.zero_le _⟩ ?_
  by_cases c7_43 : (mX0_kind v_t_reader_kind) = 43
  · rw [if_pos c7_43] at hm
    refine lv_lookup (off := 49) (tgt := 56) hx hb dX7_carryOut_7 (by decide) (by rw [c7_43]; decide) (by decide) ?_
    refine lv_aload_n hx hb dX7_carryOut_56 rfl (lv_at hl 0 rfl) ?_
    refine va_get (D := (dC, dI)) (ci := 6) (C := RX7) (T := TX7) (N := 5) hx hb hts iX7_carryOut_X7 hown hK hP 0 rfl rfl 0 (by decide) (hts _ (List.mem_of_getElem? (i := 2) rfl)) (fun _ h9 => h9) rfl dX7_carryOut_57 ?_
    refine lv_aload_n hx hb dX7_carryOut_60 rfl (lv_at hl 0 rfl) ?_
    refine va_get (D := (dC, dI)) (ci := 6) (C := RX7) (T := TX7) (N := 5) hx hb hts iX7_carryOut_X7 hown hK hP 0 rfl rfl 4 (by decide) (hts _ (List.mem_of_getElem? (i := 1) rfl)) (fun _ h9 => h9) rfl dX7_carryOut_61 ?_
    refine ro_callVe ⟨hx, hb, hml, hown, hts⟩ (kX0_key l dC dI cA a_t_reader v_t_reader_inCommand v_t_reader_kind v_t_reader_letters v_t_reader_length v_t_reader_number v_t_reader_digits) (cwV 0 hts gX7_carryOut_X0_key rfl rfl rfl hdX0_key ⟨Nat.le_of_ble_eq_true rfl, Nat.le_of_ble_eq_true rfl⟩) (hP.sub [21] rfl) hK rfl rfl rfl hl.1 rfl (Nat.le_of_ble_eq_true rfl) dX7_carryOut_64 ⟨Nat.zero_le _, Nat.zero_le _⟩ ?_
    refine lv_aload_n hx hb dX7_carryOut_67 rfl (lv_at hl 0 rfl) ?_
    refine va_get (D := (dC, dI)) (ci := 6) (C := RX7) (T := TX7) (N := 5) hx hb hts iX7_carryOut_X7 hown hK hP 0 rfl rfl 4 (by decide) (hts _ (List.mem_of_getElem? (i := 1) rfl)) (fun _ h9 => h9) rfl dX7_carryOut_68 ?_
    refine ro_callVe ⟨hx, hb, hml, hown, hts⟩ (kX0_number l dC dI cA a_t_reader v_t_reader_inCommand v_t_reader_kind v_t_reader_letters v_t_reader_length v_t_reader_number v_t_reader_digits) (cwV 0 hts gX7_carryOut_X0_number rfl rfl rfl hdX0_number ⟨Nat.le_of_ble_eq_true rfl, Nat.le_of_ble_eq_true rfl⟩) (hP.sub [21] rfl) hK rfl rfl rfl hl.1 rfl (Nat.le_of_ble_eq_true rfl) dX7_carryOut_71 ⟨Nat.zero_le _, Nat.zero_le _⟩ ?_
    obtain ⟨⟨r74, v_t_town_state_houses_74, v_t_town_state_evicted_74, v_t_town_state_built_74, f_t_town_state_keys_cells_74, f_t_town_state_weights_cells_74, f_t_town_parents_cells_74, f_t_town_children_cells_74, f_t_town_roads_cells_74, f_t_town_namesIn_cells_74, f_t_town_weightIn_cells_74, f_t_town_homes_cells_74⟩, e74, hm⟩ := bs hm
    try dsimp only at hm
    refine mu_callVe (wr := [(a_t, .inr (6, [.ref a_t_town, .ref a_t_trial, .ref a_t_saves, .ref a_t_text, .ref a_t_reader])), (a_t_town_leaving, .inr (2, [.ref a_t_town_leaving_cells])), (a_t_town_leaving_cells, .inl (cA, 193, .inl f_t_town_leaving_cells)), (a_t_reader, .inr (0, [.int v_t_reader_inCommand, .int v_t_reader_kind, .int v_t_reader_letters, .int v_t_reader_length, .int v_t_reader_number, .int v_t_reader_digits]))]) ⟨hx, hb, hml, hown, hts⟩ (kX5_takeName l dC dI cA a_t_town a_t_town_state a_t_town_parents a_t_town_children a_t_town_roads a_t_town_namesIn a_t_town_weightIn a_t_town_homes a_t_town_leaving a_t_town_state_keys a_t_town_state_weights a_t_town_state_keys_cells a_t_town_state_weights_cells a_t_town_parents_cells a_t_town_children_cells a_t_town_roads_cells a_t_town_namesIn_cells a_t_town_weightIn_cells a_t_town_homes_cells v_t_town_state_houses v_t_town_state_limit v_t_town_state_movedIn v_t_town_state_evicted v_t_town_state_built v_t_town_state_tornDown f_t_town_state_keys_cells f_t_town_state_weights_cells f_t_town_parents_cells f_t_town_children_cells f_t_town_roads_cells f_t_town_namesIn_cells f_t_town_weightIn_cells f_t_town_homes_cells (mX0_key v_t_reader_letters v_t_reader_length) (mX0_number v_t_reader_number) _ r74 v_t_town_state_houses_74 v_t_town_state_evicted_74 v_t_town_state_built_74 f_t_town_state_keys_cells_74 f_t_town_state_weights_cells_74 f_t_town_parents_cells_74 f_t_town_children_cells_74 f_t_town_roads_cells_74 f_t_town_namesIn_cells_74 f_t_town_weightIn_cells_74 f_t_town_homes_cells_74 e74) (cwV 2 hts gX7_carryOut_X5_takeName rfl rfl rfl hdX5_takeName ⟨Nat.le_of_ble_eq_true rfl, Nat.le_of_ble_eq_true rfl⟩) hP hD hS hA hK [1, 2, 3, 4, 5, 6, 7, 8, 9, 10, 11, 12, 13, 14, 15, 16, 17, 18] [0, 19, 20, 21] rfl rfl rfl rfl (by decide +kernel) rfl rfl rfl hl.1 rfl (Nat.le_of_ble_eq_true rfl) dX7_carryOut_74 ⟨Nat.zero_le _, Nat.zero_le _⟩ (fun H locs hP hD hS => ?_)
    have hP : va_P (dC, dI) vwCl [(a_t, .inr (6, [.ref a_t_town, .ref a_t_trial, .ref a_t_saves, .ref a_t_text, .ref a_t_reader])), (a_t_town_leaving, .inr (2, [.ref a_t_town_leaving_cells])), (a_t_town_leaving_cells, .inl (cA, 193, .inl f_t_town_leaving_cells)), (a_t_reader, .inr (0, [.int v_t_reader_inCommand, .int v_t_reader_kind, .int v_t_reader_letters, .int v_t_reader_length, .int v_t_reader_number, .int v_t_reader_digits])), (a_t_town, .inr (4, [.ref a_t_town_state, .ref a_t_town_parents, .ref a_t_town_children, .ref a_t_town_roads, .ref a_t_town_namesIn, .ref a_t_town_weightIn, .ref a_t_town_homes, .ref a_t_town_leaving])), (a_t_town_state, .inr (3, [.ref a_t_town_state_keys, .ref a_t_town_state_weights, .int v_t_town_state_houses_74, .int v_t_town_state_limit, .int v_t_town_state_movedIn, .int v_t_town_state_evicted_74, .int v_t_town_state_built_74, .int v_t_town_state_tornDown])), (a_t_town_state_keys, .inr (2, [.ref a_t_town_state_keys_cells])), (a_t_town_state_keys_cells, .inl (cA, 193, .inl f_t_town_state_keys_cells_74)), (a_t_town_state_weights, .inr (2, [.ref a_t_town_state_weights_cells])), (a_t_town_state_weights_cells, .inl (cA, 193, .inl f_t_town_state_weights_cells_74)), (a_t_town_parents, .inr (2, [.ref a_t_town_parents_cells])), (a_t_town_parents_cells, .inl (cA, 193, .inl f_t_town_parents_cells_74)), (a_t_town_children, .inr (2, [.ref a_t_town_children_cells])), (a_t_town_children_cells, .inl (cA, 193, .inl f_t_town_children_cells_74)), (a_t_town_roads, .inr (2, [.ref a_t_town_roads_cells])), (a_t_town_roads_cells, .inl (cA, 193, .inl f_t_town_roads_cells_74)), (a_t_town_namesIn, .inr (2, [.ref a_t_town_namesIn_cells])), (a_t_town_namesIn_cells, .inl (cA, 193, .inl f_t_town_namesIn_cells_74)), (a_t_town_weightIn, .inr (2, [.ref a_t_town_weightIn_cells])), (a_t_town_weightIn_cells, .inl (cA, 193, .inl f_t_town_weightIn_cells_74)), (a_t_town_homes, .inr (2, [.ref a_t_town_homes_cells])), (a_t_town_homes_cells, .inl (cA, 24, .inl f_t_town_homes_cells_74))] H := hP
    have hD : va_D A [(a_t, .inr (6, [.ref a_t_town, .ref a_t_trial, .ref a_t_saves, .ref a_t_text, .ref a_t_reader])), (a_t_town_leaving, .inr (2, [.ref a_t_town_leaving_cells])), (a_t_town_leaving_cells, .inl (cA, 193, .inl f_t_town_leaving_cells)), (a_t_reader, .inr (0, [.int v_t_reader_inCommand, .int v_t_reader_kind, .int v_t_reader_letters, .int v_t_reader_length, .int v_t_reader_number, .int v_t_reader_digits])), (a_t_town, .inr (4, [.ref a_t_town_state, .ref a_t_town_parents, .ref a_t_town_children, .ref a_t_town_roads, .ref a_t_town_namesIn, .ref a_t_town_weightIn, .ref a_t_town_homes, .ref a_t_town_leaving])), (a_t_town_state, .inr (3, [.ref a_t_town_state_keys, .ref a_t_town_state_weights, .int v_t_town_state_houses_74, .int v_t_town_state_limit, .int v_t_town_state_movedIn, .int v_t_town_state_evicted_74, .int v_t_town_state_built_74, .int v_t_town_state_tornDown])), (a_t_town_state_keys, .inr (2, [.ref a_t_town_state_keys_cells])), (a_t_town_state_keys_cells, .inl (cA, 193, .inl f_t_town_state_keys_cells_74)), (a_t_town_state_weights, .inr (2, [.ref a_t_town_state_weights_cells])), (a_t_town_state_weights_cells, .inl (cA, 193, .inl f_t_town_state_weights_cells_74)), (a_t_town_parents, .inr (2, [.ref a_t_town_parents_cells])), (a_t_town_parents_cells, .inl (cA, 193, .inl f_t_town_parents_cells_74)), (a_t_town_children, .inr (2, [.ref a_t_town_children_cells])), (a_t_town_children_cells, .inl (cA, 193, .inl f_t_town_children_cells_74)), (a_t_town_roads, .inr (2, [.ref a_t_town_roads_cells])), (a_t_town_roads_cells, .inl (cA, 193, .inl f_t_town_roads_cells_74)), (a_t_town_namesIn, .inr (2, [.ref a_t_town_namesIn_cells])), (a_t_town_namesIn_cells, .inl (cA, 193, .inl f_t_town_namesIn_cells_74)), (a_t_town_weightIn, .inr (2, [.ref a_t_town_weightIn_cells])), (a_t_town_weightIn_cells, .inl (cA, 193, .inl f_t_town_weightIn_cells_74)), (a_t_town_homes, .inr (2, [.ref a_t_town_homes_cells])), (a_t_town_homes_cells, .inl (cA, 24, .inl f_t_town_homes_cells_74))] := hD
    refine lv_pop hx hb dX7_carryOut_77 rfl ?_
    refine lv_goto (tgt := 161) hx hb dX7_carryOut_78 (by decide) ?_
    cases hm
    exact mu_vret hx hb hr hP hD hS hK [0, 4, 5, 6, 7, 8, 9, 10, 11, 12, 13, 14, 15, 16, 17, 18, 19, 20, 21, 1, 2, 3] rfl (by decide) dX7_carryOut_161 hlocks
  rw [if_neg c7_43] at hm
  by_cases c7_45 : (mX0_kind v_t_reader_kind) = 45
  · rw [if_pos c7_45] at hm
    refine lv_lookup (off := 74) (tgt := 81) hx hb dX7_carryOut_7 (by decide) (by rw [c7_45]; decide) (by decide) ?_
    refine lv_aload_n hx hb dX7_carryOut_81 rfl (lv_at hl 0 rfl) ?_
    refine va_get (D := (dC, dI)) (ci := 6) (C := RX7) (T := TX7) (N := 5) hx hb hts iX7_carryOut_X7 hown hK hP 0 rfl rfl 0 (by decide) (hts _ (List.mem_of_getElem? (i := 2) rfl)) (fun _ h9 => h9) rfl dX7_carryOut_82 ?_
    refine lv_aload_n hx hb dX7_carryOut_85 rfl (lv_at hl 0 rfl) ?_
    refine va_get (D := (dC, dI)) (ci := 6) (C := RX7) (T := TX7) (N := 5) hx hb hts iX7_carryOut_X7 hown hK hP 0 rfl rfl 4 (by decide) (hts _ (List.mem_of_getElem? (i := 1) rfl)) (fun _ h9 => h9) rfl dX7_carryOut_86 ?_
    refine ro_callVe ⟨hx, hb, hml, hown, hts⟩ (kX0_key l dC dI cA a_t_reader v_t_reader_inCommand v_t_reader_kind v_t_reader_letters v_t_reader_length v_t_reader_number v_t_reader_digits) (cwV 0 hts gX7_carryOut_X0_key rfl rfl rfl hdX0_key ⟨Nat.le_of_ble_eq_true rfl, Nat.le_of_ble_eq_true rfl⟩) (hP.sub [21] rfl) hK rfl rfl rfl hl.1 rfl (Nat.le_of_ble_eq_true rfl) dX7_carryOut_89 ⟨Nat.zero_le _, Nat.zero_le _⟩ ?_
    obtain ⟨⟨r92, v_t_town_state_houses_92, v_t_town_state_tornDown_92, f_t_town_state_keys_cells_92, f_t_town_state_weights_cells_92, f_t_town_parents_cells_92, f_t_town_children_cells_92, f_t_town_roads_cells_92, f_t_town_namesIn_cells_92, f_t_town_weightIn_cells_92, f_t_town_homes_cells_92⟩, e92, hm⟩ := bs hm
    try dsimp only at hm
    refine mu_callVe (wr := [(a_t, .inr (6, [.ref a_t_town, .ref a_t_trial, .ref a_t_saves, .ref a_t_text, .ref a_t_reader])), (a_t_town_leaving, .inr (2, [.ref a_t_town_leaving_cells])), (a_t_town_leaving_cells, .inl (cA, 193, .inl f_t_town_leaving_cells)), (a_t_reader, .inr (0, [.int v_t_reader_inCommand, .int v_t_reader_kind, .int v_t_reader_letters, .int v_t_reader_length, .int v_t_reader_number, .int v_t_reader_digits]))]) ⟨hx, hb, hml, hown, hts⟩ (kX5_dropName l dC dI cA a_t_town a_t_town_state a_t_town_parents a_t_town_children a_t_town_roads a_t_town_namesIn a_t_town_weightIn a_t_town_homes a_t_town_leaving a_t_town_state_keys a_t_town_state_weights a_t_town_state_keys_cells a_t_town_state_weights_cells a_t_town_parents_cells a_t_town_children_cells a_t_town_roads_cells a_t_town_namesIn_cells a_t_town_weightIn_cells a_t_town_homes_cells v_t_town_state_houses v_t_town_state_limit v_t_town_state_movedIn v_t_town_state_evicted v_t_town_state_built v_t_town_state_tornDown f_t_town_state_keys_cells f_t_town_state_weights_cells f_t_town_parents_cells f_t_town_children_cells f_t_town_roads_cells f_t_town_namesIn_cells f_t_town_weightIn_cells f_t_town_homes_cells (mX0_key v_t_reader_letters v_t_reader_length) _ r92 v_t_town_state_houses_92 v_t_town_state_tornDown_92 f_t_town_state_keys_cells_92 f_t_town_state_weights_cells_92 f_t_town_parents_cells_92 f_t_town_children_cells_92 f_t_town_roads_cells_92 f_t_town_namesIn_cells_92 f_t_town_weightIn_cells_92 f_t_town_homes_cells_92 e92) (cwV 1 hts gX7_carryOut_X5_dropName rfl rfl rfl hdX5_dropName ⟨Nat.le_of_ble_eq_true rfl, Nat.le_of_ble_eq_true rfl⟩) hP hD hS hA hK [1, 2, 3, 4, 5, 6, 7, 8, 9, 10, 11, 12, 13, 14, 15, 16, 17, 18] [0, 19, 20, 21] rfl rfl rfl rfl (by decide +kernel) rfl rfl rfl hl.1 rfl (Nat.le_of_ble_eq_true rfl) dX7_carryOut_92 ⟨Nat.zero_le _, Nat.zero_le _⟩ (fun H locs hP hD hS => ?_)
    have hP : va_P (dC, dI) vwCl [(a_t, .inr (6, [.ref a_t_town, .ref a_t_trial, .ref a_t_saves, .ref a_t_text, .ref a_t_reader])), (a_t_town_leaving, .inr (2, [.ref a_t_town_leaving_cells])), (a_t_town_leaving_cells, .inl (cA, 193, .inl f_t_town_leaving_cells)), (a_t_reader, .inr (0, [.int v_t_reader_inCommand, .int v_t_reader_kind, .int v_t_reader_letters, .int v_t_reader_length, .int v_t_reader_number, .int v_t_reader_digits])), (a_t_town, .inr (4, [.ref a_t_town_state, .ref a_t_town_parents, .ref a_t_town_children, .ref a_t_town_roads, .ref a_t_town_namesIn, .ref a_t_town_weightIn, .ref a_t_town_homes, .ref a_t_town_leaving])), (a_t_town_state, .inr (3, [.ref a_t_town_state_keys, .ref a_t_town_state_weights, .int v_t_town_state_houses_92, .int v_t_town_state_limit, .int v_t_town_state_movedIn, .int v_t_town_state_evicted, .int v_t_town_state_built, .int v_t_town_state_tornDown_92])), (a_t_town_state_keys, .inr (2, [.ref a_t_town_state_keys_cells])), (a_t_town_state_keys_cells, .inl (cA, 193, .inl f_t_town_state_keys_cells_92)), (a_t_town_state_weights, .inr (2, [.ref a_t_town_state_weights_cells])), (a_t_town_state_weights_cells, .inl (cA, 193, .inl f_t_town_state_weights_cells_92)), (a_t_town_parents, .inr (2, [.ref a_t_town_parents_cells])), (a_t_town_parents_cells, .inl (cA, 193, .inl f_t_town_parents_cells_92)), (a_t_town_children, .inr (2, [.ref a_t_town_children_cells])), (a_t_town_children_cells, .inl (cA, 193, .inl f_t_town_children_cells_92)), (a_t_town_roads, .inr (2, [.ref a_t_town_roads_cells])), (a_t_town_roads_cells, .inl (cA, 193, .inl f_t_town_roads_cells_92)), (a_t_town_namesIn, .inr (2, [.ref a_t_town_namesIn_cells])), (a_t_town_namesIn_cells, .inl (cA, 193, .inl f_t_town_namesIn_cells_92)), (a_t_town_weightIn, .inr (2, [.ref a_t_town_weightIn_cells])), (a_t_town_weightIn_cells, .inl (cA, 193, .inl f_t_town_weightIn_cells_92)), (a_t_town_homes, .inr (2, [.ref a_t_town_homes_cells])), (a_t_town_homes_cells, .inl (cA, 24, .inl f_t_town_homes_cells_92))] H := hP
    have hD : va_D A [(a_t, .inr (6, [.ref a_t_town, .ref a_t_trial, .ref a_t_saves, .ref a_t_text, .ref a_t_reader])), (a_t_town_leaving, .inr (2, [.ref a_t_town_leaving_cells])), (a_t_town_leaving_cells, .inl (cA, 193, .inl f_t_town_leaving_cells)), (a_t_reader, .inr (0, [.int v_t_reader_inCommand, .int v_t_reader_kind, .int v_t_reader_letters, .int v_t_reader_length, .int v_t_reader_number, .int v_t_reader_digits])), (a_t_town, .inr (4, [.ref a_t_town_state, .ref a_t_town_parents, .ref a_t_town_children, .ref a_t_town_roads, .ref a_t_town_namesIn, .ref a_t_town_weightIn, .ref a_t_town_homes, .ref a_t_town_leaving])), (a_t_town_state, .inr (3, [.ref a_t_town_state_keys, .ref a_t_town_state_weights, .int v_t_town_state_houses_92, .int v_t_town_state_limit, .int v_t_town_state_movedIn, .int v_t_town_state_evicted, .int v_t_town_state_built, .int v_t_town_state_tornDown_92])), (a_t_town_state_keys, .inr (2, [.ref a_t_town_state_keys_cells])), (a_t_town_state_keys_cells, .inl (cA, 193, .inl f_t_town_state_keys_cells_92)), (a_t_town_state_weights, .inr (2, [.ref a_t_town_state_weights_cells])), (a_t_town_state_weights_cells, .inl (cA, 193, .inl f_t_town_state_weights_cells_92)), (a_t_town_parents, .inr (2, [.ref a_t_town_parents_cells])), (a_t_town_parents_cells, .inl (cA, 193, .inl f_t_town_parents_cells_92)), (a_t_town_children, .inr (2, [.ref a_t_town_children_cells])), (a_t_town_children_cells, .inl (cA, 193, .inl f_t_town_children_cells_92)), (a_t_town_roads, .inr (2, [.ref a_t_town_roads_cells])), (a_t_town_roads_cells, .inl (cA, 193, .inl f_t_town_roads_cells_92)), (a_t_town_namesIn, .inr (2, [.ref a_t_town_namesIn_cells])), (a_t_town_namesIn_cells, .inl (cA, 193, .inl f_t_town_namesIn_cells_92)), (a_t_town_weightIn, .inr (2, [.ref a_t_town_weightIn_cells])), (a_t_town_weightIn_cells, .inl (cA, 193, .inl f_t_town_weightIn_cells_92)), (a_t_town_homes, .inr (2, [.ref a_t_town_homes_cells])), (a_t_town_homes_cells, .inl (cA, 24, .inl f_t_town_homes_cells_92))] := hD
    refine lv_pop hx hb dX7_carryOut_95 rfl ?_
    refine lv_goto (tgt := 161) hx hb dX7_carryOut_96 (by decide) ?_
    cases hm
    exact mu_vret hx hb hr hP hD hS hK [0, 4, 5, 6, 7, 8, 9, 10, 11, 12, 13, 14, 15, 16, 17, 18, 19, 20, 21, 1, 2, 3] rfl (by decide) dX7_carryOut_161 hlocks
  rw [if_neg c7_45] at hm
  by_cases c7_60 : (mX0_kind v_t_reader_kind) = 60
  · rw [if_pos c7_60] at hm
    refine lv_lookup (off := 92) (tgt := 99) hx hb dX7_carryOut_7 (by decide) (by rw [c7_60]; decide) (by decide) ?_
    refine lv_aload_n hx hb dX7_carryOut_99 rfl (lv_at hl 0 rfl) ?_
    refine va_get (D := (dC, dI)) (ci := 6) (C := RX7) (T := TX7) (N := 5) hx hb hts iX7_carryOut_X7 hown hK hP 0 rfl rfl 0 (by decide) (hts _ (List.mem_of_getElem? (i := 2) rfl)) (fun _ h9 => h9) rfl dX7_carryOut_100 ?_
    refine lv_aload_n hx hb dX7_carryOut_103 rfl (lv_at hl 0 rfl) ?_
    refine va_get (D := (dC, dI)) (ci := 6) (C := RX7) (T := TX7) (N := 5) hx hb hts iX7_carryOut_X7 hown hK hP 0 rfl rfl 4 (by decide) (hts _ (List.mem_of_getElem? (i := 1) rfl)) (fun _ h9 => h9) rfl dX7_carryOut_104 ?_
    refine ro_callVe ⟨hx, hb, hml, hown, hts⟩ (kX0_key l dC dI cA a_t_reader v_t_reader_inCommand v_t_reader_kind v_t_reader_letters v_t_reader_length v_t_reader_number v_t_reader_digits) (cwV 0 hts gX7_carryOut_X0_key rfl rfl rfl hdX0_key ⟨Nat.le_of_ble_eq_true rfl, Nat.le_of_ble_eq_true rfl⟩) (hP.sub [21] rfl) hK rfl rfl rfl hl.1 rfl (Nat.le_of_ble_eq_true rfl) dX7_carryOut_107 ⟨Nat.zero_le _, Nat.zero_le _⟩ ?_
    obtain ⟨⟨r110, v_t_town_state_houses_110, v_t_town_state_movedIn_110, f_t_town_state_keys_cells_110, f_t_town_state_weights_cells_110, f_t_town_parents_cells_110, f_t_town_children_cells_110, f_t_town_roads_cells_110, f_t_town_namesIn_cells_110, f_t_town_weightIn_cells_110, f_t_town_homes_cells_110⟩, e110, hm⟩ := bs hm
    try dsimp only at hm
    refine mu_callVe (wr := [(a_t, .inr (6, [.ref a_t_town, .ref a_t_trial, .ref a_t_saves, .ref a_t_text, .ref a_t_reader])), (a_t_town_leaving, .inr (2, [.ref a_t_town_leaving_cells])), (a_t_town_leaving_cells, .inl (cA, 193, .inl f_t_town_leaving_cells)), (a_t_reader, .inr (0, [.int v_t_reader_inCommand, .int v_t_reader_kind, .int v_t_reader_letters, .int v_t_reader_length, .int v_t_reader_number, .int v_t_reader_digits]))]) ⟨hx, hb, hml, hown, hts⟩ (kX5_move l dC dI cA a_t_town a_t_town_state a_t_town_parents a_t_town_children a_t_town_roads a_t_town_namesIn a_t_town_weightIn a_t_town_homes a_t_town_leaving a_t_town_state_keys a_t_town_state_weights a_t_town_state_keys_cells a_t_town_state_weights_cells a_t_town_parents_cells a_t_town_children_cells a_t_town_roads_cells a_t_town_namesIn_cells a_t_town_weightIn_cells a_t_town_homes_cells v_t_town_state_houses v_t_town_state_limit v_t_town_state_movedIn v_t_town_state_evicted v_t_town_state_built v_t_town_state_tornDown f_t_town_state_keys_cells f_t_town_state_weights_cells f_t_town_parents_cells f_t_town_children_cells f_t_town_roads_cells f_t_town_namesIn_cells f_t_town_weightIn_cells f_t_town_homes_cells (mX0_key v_t_reader_letters v_t_reader_length) _ r110 v_t_town_state_houses_110 v_t_town_state_movedIn_110 f_t_town_state_keys_cells_110 f_t_town_state_weights_cells_110 f_t_town_parents_cells_110 f_t_town_children_cells_110 f_t_town_roads_cells_110 f_t_town_namesIn_cells_110 f_t_town_weightIn_cells_110 f_t_town_homes_cells_110 e110) (cwV 1 hts gX7_carryOut_X5_move rfl rfl rfl hdX5_move ⟨Nat.le_of_ble_eq_true rfl, Nat.le_of_ble_eq_true rfl⟩) hP hD hS hA hK [1, 2, 3, 4, 5, 6, 7, 8, 9, 10, 11, 12, 13, 14, 15, 16, 17, 18] [0, 19, 20, 21] rfl rfl rfl rfl (by decide +kernel) rfl rfl rfl hl.1 rfl (Nat.le_of_ble_eq_true rfl) dX7_carryOut_110 ⟨Nat.zero_le _, Nat.zero_le _⟩ (fun H locs hP hD hS => ?_)
    have hP : va_P (dC, dI) vwCl [(a_t, .inr (6, [.ref a_t_town, .ref a_t_trial, .ref a_t_saves, .ref a_t_text, .ref a_t_reader])), (a_t_town_leaving, .inr (2, [.ref a_t_town_leaving_cells])), (a_t_town_leaving_cells, .inl (cA, 193, .inl f_t_town_leaving_cells)), (a_t_reader, .inr (0, [.int v_t_reader_inCommand, .int v_t_reader_kind, .int v_t_reader_letters, .int v_t_reader_length, .int v_t_reader_number, .int v_t_reader_digits])), (a_t_town, .inr (4, [.ref a_t_town_state, .ref a_t_town_parents, .ref a_t_town_children, .ref a_t_town_roads, .ref a_t_town_namesIn, .ref a_t_town_weightIn, .ref a_t_town_homes, .ref a_t_town_leaving])), (a_t_town_state, .inr (3, [.ref a_t_town_state_keys, .ref a_t_town_state_weights, .int v_t_town_state_houses_110, .int v_t_town_state_limit, .int v_t_town_state_movedIn_110, .int v_t_town_state_evicted, .int v_t_town_state_built, .int v_t_town_state_tornDown])), (a_t_town_state_keys, .inr (2, [.ref a_t_town_state_keys_cells])), (a_t_town_state_keys_cells, .inl (cA, 193, .inl f_t_town_state_keys_cells_110)), (a_t_town_state_weights, .inr (2, [.ref a_t_town_state_weights_cells])), (a_t_town_state_weights_cells, .inl (cA, 193, .inl f_t_town_state_weights_cells_110)), (a_t_town_parents, .inr (2, [.ref a_t_town_parents_cells])), (a_t_town_parents_cells, .inl (cA, 193, .inl f_t_town_parents_cells_110)), (a_t_town_children, .inr (2, [.ref a_t_town_children_cells])), (a_t_town_children_cells, .inl (cA, 193, .inl f_t_town_children_cells_110)), (a_t_town_roads, .inr (2, [.ref a_t_town_roads_cells])), (a_t_town_roads_cells, .inl (cA, 193, .inl f_t_town_roads_cells_110)), (a_t_town_namesIn, .inr (2, [.ref a_t_town_namesIn_cells])), (a_t_town_namesIn_cells, .inl (cA, 193, .inl f_t_town_namesIn_cells_110)), (a_t_town_weightIn, .inr (2, [.ref a_t_town_weightIn_cells])), (a_t_town_weightIn_cells, .inl (cA, 193, .inl f_t_town_weightIn_cells_110)), (a_t_town_homes, .inr (2, [.ref a_t_town_homes_cells])), (a_t_town_homes_cells, .inl (cA, 24, .inl f_t_town_homes_cells_110))] H := hP
    have hD : va_D A [(a_t, .inr (6, [.ref a_t_town, .ref a_t_trial, .ref a_t_saves, .ref a_t_text, .ref a_t_reader])), (a_t_town_leaving, .inr (2, [.ref a_t_town_leaving_cells])), (a_t_town_leaving_cells, .inl (cA, 193, .inl f_t_town_leaving_cells)), (a_t_reader, .inr (0, [.int v_t_reader_inCommand, .int v_t_reader_kind, .int v_t_reader_letters, .int v_t_reader_length, .int v_t_reader_number, .int v_t_reader_digits])), (a_t_town, .inr (4, [.ref a_t_town_state, .ref a_t_town_parents, .ref a_t_town_children, .ref a_t_town_roads, .ref a_t_town_namesIn, .ref a_t_town_weightIn, .ref a_t_town_homes, .ref a_t_town_leaving])), (a_t_town_state, .inr (3, [.ref a_t_town_state_keys, .ref a_t_town_state_weights, .int v_t_town_state_houses_110, .int v_t_town_state_limit, .int v_t_town_state_movedIn_110, .int v_t_town_state_evicted, .int v_t_town_state_built, .int v_t_town_state_tornDown])), (a_t_town_state_keys, .inr (2, [.ref a_t_town_state_keys_cells])), (a_t_town_state_keys_cells, .inl (cA, 193, .inl f_t_town_state_keys_cells_110)), (a_t_town_state_weights, .inr (2, [.ref a_t_town_state_weights_cells])), (a_t_town_state_weights_cells, .inl (cA, 193, .inl f_t_town_state_weights_cells_110)), (a_t_town_parents, .inr (2, [.ref a_t_town_parents_cells])), (a_t_town_parents_cells, .inl (cA, 193, .inl f_t_town_parents_cells_110)), (a_t_town_children, .inr (2, [.ref a_t_town_children_cells])), (a_t_town_children_cells, .inl (cA, 193, .inl f_t_town_children_cells_110)), (a_t_town_roads, .inr (2, [.ref a_t_town_roads_cells])), (a_t_town_roads_cells, .inl (cA, 193, .inl f_t_town_roads_cells_110)), (a_t_town_namesIn, .inr (2, [.ref a_t_town_namesIn_cells])), (a_t_town_namesIn_cells, .inl (cA, 193, .inl f_t_town_namesIn_cells_110)), (a_t_town_weightIn, .inr (2, [.ref a_t_town_weightIn_cells])), (a_t_town_weightIn_cells, .inl (cA, 193, .inl f_t_town_weightIn_cells_110)), (a_t_town_homes, .inr (2, [.ref a_t_town_homes_cells])), (a_t_town_homes_cells, .inl (cA, 24, .inl f_t_town_homes_cells_110))] := hD
    refine lv_pop hx hb dX7_carryOut_113 rfl ?_
    refine lv_goto (tgt := 161) hx hb dX7_carryOut_114 (by decide) ?_
    cases hm
    exact mu_vret hx hb hr hP hD hS hK [0, 4, 5, 6, 7, 8, 9, 10, 11, 12, 13, 14, 15, 16, 17, 18, 19, 20, 21, 1, 2, 3] rfl (by decide) dX7_carryOut_161 hlocks
  rw [if_neg c7_60] at hm
  by_cases c7_61 : (mX0_kind v_t_reader_kind) = 61
  · rw [if_pos c7_61] at hm
    refine lv_lookup (off := 128) (tgt := 135) hx hb dX7_carryOut_7 (by decide) (by rw [c7_61]; decide) (by decide) ?_
    refine lv_aload_n hx hb dX7_carryOut_135 rfl (lv_at hl 0 rfl) ?_
    refine va_get (D := (dC, dI)) (ci := 6) (C := RX7) (T := TX7) (N := 5) hx hb hts iX7_carryOut_X7 hown hK hP 0 rfl rfl 0 (by decide) (hts _ (List.mem_of_getElem? (i := 2) rfl)) (fun _ h9 => h9) rfl dX7_carryOut_136 ?_
    refine lv_aload_n hx hb dX7_carryOut_139 rfl (lv_at hl 0 rfl) ?_
    refine va_get (D := (dC, dI)) (ci := 6) (C := RX7) (T := TX7) (N := 5) hx hb hts iX7_carryOut_X7 hown hK hP 0 rfl rfl 4 (by decide) (hts _ (List.mem_of_getElem? (i := 1) rfl)) (fun _ h9 => h9) rfl dX7_carryOut_140 ?_
    refine ro_callVe ⟨hx, hb, hml, hown, hts⟩ (kX0_number l dC dI cA a_t_reader v_t_reader_inCommand v_t_reader_kind v_t_reader_letters v_t_reader_length v_t_reader_number v_t_reader_digits) (cwV 0 hts gX7_carryOut_X0_number rfl rfl rfl hdX0_number ⟨Nat.le_of_ble_eq_true rfl, Nat.le_of_ble_eq_true rfl⟩) (hP.sub [21] rfl) hK rfl rfl rfl hl.1 rfl (Nat.le_of_ble_eq_true rfl) dX7_carryOut_143 ⟨Nat.zero_le _, Nat.zero_le _⟩ ?_
    obtain ⟨⟨r146, v_t_town_state_limit_146⟩, e146, hm⟩ := bs hm
    try dsimp only at hm
    refine mu_callVe (wr := [(a_t, .inr (6, [.ref a_t_town, .ref a_t_trial, .ref a_t_saves, .ref a_t_text, .ref a_t_reader])), (a_t_town_state_keys, .inr (2, [.ref a_t_town_state_keys_cells])), (a_t_town_state_keys_cells, .inl (cA, 193, .inl f_t_town_state_keys_cells)), (a_t_town_state_weights, .inr (2, [.ref a_t_town_state_weights_cells])), (a_t_town_state_weights_cells, .inl (cA, 193, .inl f_t_town_state_weights_cells)), (a_t_town_parents, .inr (2, [.ref a_t_town_parents_cells])), (a_t_town_parents_cells, .inl (cA, 193, .inl f_t_town_parents_cells)), (a_t_town_children, .inr (2, [.ref a_t_town_children_cells])), (a_t_town_children_cells, .inl (cA, 193, .inl f_t_town_children_cells)), (a_t_town_roads, .inr (2, [.ref a_t_town_roads_cells])), (a_t_town_roads_cells, .inl (cA, 193, .inl f_t_town_roads_cells)), (a_t_town_namesIn, .inr (2, [.ref a_t_town_namesIn_cells])), (a_t_town_namesIn_cells, .inl (cA, 193, .inl f_t_town_namesIn_cells)), (a_t_town_weightIn, .inr (2, [.ref a_t_town_weightIn_cells])), (a_t_town_weightIn_cells, .inl (cA, 193, .inl f_t_town_weightIn_cells)), (a_t_town_homes, .inr (2, [.ref a_t_town_homes_cells])), (a_t_town_homes_cells, .inl (cA, 24, .inl f_t_town_homes_cells)), (a_t_town_leaving, .inr (2, [.ref a_t_town_leaving_cells])), (a_t_town_leaving_cells, .inl (cA, 193, .inl f_t_town_leaving_cells)), (a_t_reader, .inr (0, [.int v_t_reader_inCommand, .int v_t_reader_kind, .int v_t_reader_letters, .int v_t_reader_length, .int v_t_reader_number, .int v_t_reader_digits]))]) ⟨hx, hb, hml, hown, hts⟩ (kX5_changeLimit l dC dI cA a_t_town a_t_town_state a_t_town_parents a_t_town_children a_t_town_roads a_t_town_namesIn a_t_town_weightIn a_t_town_homes a_t_town_leaving a_t_town_state_keys a_t_town_state_weights v_t_town_state_houses v_t_town_state_limit v_t_town_state_movedIn v_t_town_state_evicted v_t_town_state_built v_t_town_state_tornDown (mX0_number v_t_reader_number) _ r146 v_t_town_state_limit_146 e146) (cwV 1 hts gX7_carryOut_X5_changeLimit rfl rfl rfl hdX5_changeLimit ⟨Nat.le_of_ble_eq_true rfl, Nat.le_of_ble_eq_true rfl⟩) hP hD hS hA hK [1, 2] [0, 3, 4, 5, 6, 7, 8, 9, 10, 11, 12, 13, 14, 15, 16, 17, 18, 19, 20, 21] rfl rfl rfl rfl (by decide +kernel) rfl rfl rfl hl.1 rfl (Nat.le_of_ble_eq_true rfl) dX7_carryOut_146 ⟨Nat.zero_le _, Nat.zero_le _⟩ (fun H locs hP hD hS => ?_)
    have hP : va_P (dC, dI) vwCl [(a_t, .inr (6, [.ref a_t_town, .ref a_t_trial, .ref a_t_saves, .ref a_t_text, .ref a_t_reader])), (a_t_town_state_keys, .inr (2, [.ref a_t_town_state_keys_cells])), (a_t_town_state_keys_cells, .inl (cA, 193, .inl f_t_town_state_keys_cells)), (a_t_town_state_weights, .inr (2, [.ref a_t_town_state_weights_cells])), (a_t_town_state_weights_cells, .inl (cA, 193, .inl f_t_town_state_weights_cells)), (a_t_town_parents, .inr (2, [.ref a_t_town_parents_cells])), (a_t_town_parents_cells, .inl (cA, 193, .inl f_t_town_parents_cells)), (a_t_town_children, .inr (2, [.ref a_t_town_children_cells])), (a_t_town_children_cells, .inl (cA, 193, .inl f_t_town_children_cells)), (a_t_town_roads, .inr (2, [.ref a_t_town_roads_cells])), (a_t_town_roads_cells, .inl (cA, 193, .inl f_t_town_roads_cells)), (a_t_town_namesIn, .inr (2, [.ref a_t_town_namesIn_cells])), (a_t_town_namesIn_cells, .inl (cA, 193, .inl f_t_town_namesIn_cells)), (a_t_town_weightIn, .inr (2, [.ref a_t_town_weightIn_cells])), (a_t_town_weightIn_cells, .inl (cA, 193, .inl f_t_town_weightIn_cells)), (a_t_town_homes, .inr (2, [.ref a_t_town_homes_cells])), (a_t_town_homes_cells, .inl (cA, 24, .inl f_t_town_homes_cells)), (a_t_town_leaving, .inr (2, [.ref a_t_town_leaving_cells])), (a_t_town_leaving_cells, .inl (cA, 193, .inl f_t_town_leaving_cells)), (a_t_reader, .inr (0, [.int v_t_reader_inCommand, .int v_t_reader_kind, .int v_t_reader_letters, .int v_t_reader_length, .int v_t_reader_number, .int v_t_reader_digits])), (a_t_town, .inr (4, [.ref a_t_town_state, .ref a_t_town_parents, .ref a_t_town_children, .ref a_t_town_roads, .ref a_t_town_namesIn, .ref a_t_town_weightIn, .ref a_t_town_homes, .ref a_t_town_leaving])), (a_t_town_state, .inr (3, [.ref a_t_town_state_keys, .ref a_t_town_state_weights, .int v_t_town_state_houses, .int v_t_town_state_limit_146, .int v_t_town_state_movedIn, .int v_t_town_state_evicted, .int v_t_town_state_built, .int v_t_town_state_tornDown]))] H := hP
    have hD : va_D A [(a_t, .inr (6, [.ref a_t_town, .ref a_t_trial, .ref a_t_saves, .ref a_t_text, .ref a_t_reader])), (a_t_town_state_keys, .inr (2, [.ref a_t_town_state_keys_cells])), (a_t_town_state_keys_cells, .inl (cA, 193, .inl f_t_town_state_keys_cells)), (a_t_town_state_weights, .inr (2, [.ref a_t_town_state_weights_cells])), (a_t_town_state_weights_cells, .inl (cA, 193, .inl f_t_town_state_weights_cells)), (a_t_town_parents, .inr (2, [.ref a_t_town_parents_cells])), (a_t_town_parents_cells, .inl (cA, 193, .inl f_t_town_parents_cells)), (a_t_town_children, .inr (2, [.ref a_t_town_children_cells])), (a_t_town_children_cells, .inl (cA, 193, .inl f_t_town_children_cells)), (a_t_town_roads, .inr (2, [.ref a_t_town_roads_cells])), (a_t_town_roads_cells, .inl (cA, 193, .inl f_t_town_roads_cells)), (a_t_town_namesIn, .inr (2, [.ref a_t_town_namesIn_cells])), (a_t_town_namesIn_cells, .inl (cA, 193, .inl f_t_town_namesIn_cells)), (a_t_town_weightIn, .inr (2, [.ref a_t_town_weightIn_cells])), (a_t_town_weightIn_cells, .inl (cA, 193, .inl f_t_town_weightIn_cells)), (a_t_town_homes, .inr (2, [.ref a_t_town_homes_cells])), (a_t_town_homes_cells, .inl (cA, 24, .inl f_t_town_homes_cells)), (a_t_town_leaving, .inr (2, [.ref a_t_town_leaving_cells])), (a_t_town_leaving_cells, .inl (cA, 193, .inl f_t_town_leaving_cells)), (a_t_reader, .inr (0, [.int v_t_reader_inCommand, .int v_t_reader_kind, .int v_t_reader_letters, .int v_t_reader_length, .int v_t_reader_number, .int v_t_reader_digits])), (a_t_town, .inr (4, [.ref a_t_town_state, .ref a_t_town_parents, .ref a_t_town_children, .ref a_t_town_roads, .ref a_t_town_namesIn, .ref a_t_town_weightIn, .ref a_t_town_homes, .ref a_t_town_leaving])), (a_t_town_state, .inr (3, [.ref a_t_town_state_keys, .ref a_t_town_state_weights, .int v_t_town_state_houses, .int v_t_town_state_limit_146, .int v_t_town_state_movedIn, .int v_t_town_state_evicted, .int v_t_town_state_built, .int v_t_town_state_tornDown]))] := hD
    refine lv_pop hx hb dX7_carryOut_149 rfl ?_
    refine lv_goto (tgt := 161) hx hb dX7_carryOut_150 (by decide) ?_
    cases hm
    exact mu_vret hx hb hr hP hD hS hK [0, 20, 21, 1, 2, 3, 4, 5, 6, 7, 8, 9, 10, 11, 12, 13, 14, 15, 16, 17, 18, 19] rfl (by decide) dX7_carryOut_161 hlocks
  rw [if_neg c7_61] at hm
  by_cases c7_62 : (mX0_kind v_t_reader_kind) = 62
  · rw [if_pos c7_62] at hm
    refine lv_lookup (off := 110) (tgt := 117) hx hb dX7_carryOut_7 (by decide) (by rw [c7_62]; decide) (by decide) ?_
    refine lv_aload_n hx hb dX7_carryOut_117 rfl (lv_at hl 0 rfl) ?_
    refine va_get (D := (dC, dI)) (ci := 6) (C := RX7) (T := TX7) (N := 5) hx hb hts iX7_carryOut_X7 hown hK hP 0 rfl rfl 0 (by decide) (hts _ (List.mem_of_getElem? (i := 2) rfl)) (fun _ h9 => h9) rfl dX7_carryOut_118 ?_
    refine lv_aload_n hx hb dX7_carryOut_121 rfl (lv_at hl 0 rfl) ?_
    refine va_get (D := (dC, dI)) (ci := 6) (C := RX7) (T := TX7) (N := 5) hx hb hts iX7_carryOut_X7 hown hK hP 0 rfl rfl 4 (by decide) (hts _ (List.mem_of_getElem? (i := 1) rfl)) (fun _ h9 => h9) rfl dX7_carryOut_122 ?_
    refine ro_callVe ⟨hx, hb, hml, hown, hts⟩ (kX0_key l dC dI cA a_t_reader v_t_reader_inCommand v_t_reader_kind v_t_reader_letters v_t_reader_length v_t_reader_number v_t_reader_digits) (cwV 0 hts gX7_carryOut_X0_key rfl rfl rfl hdX0_key ⟨Nat.le_of_ble_eq_true rfl, Nat.le_of_ble_eq_true rfl⟩) (hP.sub [21] rfl) hK rfl rfl rfl hl.1 rfl (Nat.le_of_ble_eq_true rfl) dX7_carryOut_125 ⟨Nat.zero_le _, Nat.zero_le _⟩ ?_
    obtain ⟨⟨r128, v_t_town_state_houses_128, v_t_town_state_evicted_128, f_t_town_state_keys_cells_128, f_t_town_state_weights_cells_128, f_t_town_parents_cells_128, f_t_town_children_cells_128, f_t_town_roads_cells_128, f_t_town_namesIn_cells_128, f_t_town_weightIn_cells_128, f_t_town_homes_cells_128⟩, e128, hm⟩ := bs hm
    try dsimp only at hm
    refine mu_callVe (wr := [(a_t, .inr (6, [.ref a_t_town, .ref a_t_trial, .ref a_t_saves, .ref a_t_text, .ref a_t_reader])), (a_t_town_leaving, .inr (2, [.ref a_t_town_leaving_cells])), (a_t_town_leaving_cells, .inl (cA, 193, .inl f_t_town_leaving_cells)), (a_t_reader, .inr (0, [.int v_t_reader_inCommand, .int v_t_reader_kind, .int v_t_reader_letters, .int v_t_reader_length, .int v_t_reader_number, .int v_t_reader_digits]))]) ⟨hx, hb, hml, hown, hts⟩ (kX5_part l dC dI cA a_t_town a_t_town_state a_t_town_parents a_t_town_children a_t_town_roads a_t_town_namesIn a_t_town_weightIn a_t_town_homes a_t_town_leaving a_t_town_state_keys a_t_town_state_weights a_t_town_state_keys_cells a_t_town_state_weights_cells a_t_town_parents_cells a_t_town_children_cells a_t_town_roads_cells a_t_town_namesIn_cells a_t_town_weightIn_cells a_t_town_homes_cells v_t_town_state_houses v_t_town_state_limit v_t_town_state_movedIn v_t_town_state_evicted v_t_town_state_built v_t_town_state_tornDown f_t_town_state_keys_cells f_t_town_state_weights_cells f_t_town_parents_cells f_t_town_children_cells f_t_town_roads_cells f_t_town_namesIn_cells f_t_town_weightIn_cells f_t_town_homes_cells (mX0_key v_t_reader_letters v_t_reader_length) _ r128 v_t_town_state_houses_128 v_t_town_state_evicted_128 f_t_town_state_keys_cells_128 f_t_town_state_weights_cells_128 f_t_town_parents_cells_128 f_t_town_children_cells_128 f_t_town_roads_cells_128 f_t_town_namesIn_cells_128 f_t_town_weightIn_cells_128 f_t_town_homes_cells_128 e128) (cwV 1 hts gX7_carryOut_X5_part rfl rfl rfl hdX5_part ⟨Nat.le_of_ble_eq_true rfl, Nat.le_of_ble_eq_true rfl⟩) hP hD hS hA hK [1, 2, 3, 4, 5, 6, 7, 8, 9, 10, 11, 12, 13, 14, 15, 16, 17, 18] [0, 19, 20, 21] rfl rfl rfl rfl (by decide +kernel) rfl rfl rfl hl.1 rfl (Nat.le_of_ble_eq_true rfl) dX7_carryOut_128 ⟨Nat.zero_le _, Nat.zero_le _⟩ (fun H locs hP hD hS => ?_)
    have hP : va_P (dC, dI) vwCl [(a_t, .inr (6, [.ref a_t_town, .ref a_t_trial, .ref a_t_saves, .ref a_t_text, .ref a_t_reader])), (a_t_town_leaving, .inr (2, [.ref a_t_town_leaving_cells])), (a_t_town_leaving_cells, .inl (cA, 193, .inl f_t_town_leaving_cells)), (a_t_reader, .inr (0, [.int v_t_reader_inCommand, .int v_t_reader_kind, .int v_t_reader_letters, .int v_t_reader_length, .int v_t_reader_number, .int v_t_reader_digits])), (a_t_town, .inr (4, [.ref a_t_town_state, .ref a_t_town_parents, .ref a_t_town_children, .ref a_t_town_roads, .ref a_t_town_namesIn, .ref a_t_town_weightIn, .ref a_t_town_homes, .ref a_t_town_leaving])), (a_t_town_state, .inr (3, [.ref a_t_town_state_keys, .ref a_t_town_state_weights, .int v_t_town_state_houses_128, .int v_t_town_state_limit, .int v_t_town_state_movedIn, .int v_t_town_state_evicted_128, .int v_t_town_state_built, .int v_t_town_state_tornDown])), (a_t_town_state_keys, .inr (2, [.ref a_t_town_state_keys_cells])), (a_t_town_state_keys_cells, .inl (cA, 193, .inl f_t_town_state_keys_cells_128)), (a_t_town_state_weights, .inr (2, [.ref a_t_town_state_weights_cells])), (a_t_town_state_weights_cells, .inl (cA, 193, .inl f_t_town_state_weights_cells_128)), (a_t_town_parents, .inr (2, [.ref a_t_town_parents_cells])), (a_t_town_parents_cells, .inl (cA, 193, .inl f_t_town_parents_cells_128)), (a_t_town_children, .inr (2, [.ref a_t_town_children_cells])), (a_t_town_children_cells, .inl (cA, 193, .inl f_t_town_children_cells_128)), (a_t_town_roads, .inr (2, [.ref a_t_town_roads_cells])), (a_t_town_roads_cells, .inl (cA, 193, .inl f_t_town_roads_cells_128)), (a_t_town_namesIn, .inr (2, [.ref a_t_town_namesIn_cells])), (a_t_town_namesIn_cells, .inl (cA, 193, .inl f_t_town_namesIn_cells_128)), (a_t_town_weightIn, .inr (2, [.ref a_t_town_weightIn_cells])), (a_t_town_weightIn_cells, .inl (cA, 193, .inl f_t_town_weightIn_cells_128)), (a_t_town_homes, .inr (2, [.ref a_t_town_homes_cells])), (a_t_town_homes_cells, .inl (cA, 24, .inl f_t_town_homes_cells_128))] H := hP
    have hD : va_D A [(a_t, .inr (6, [.ref a_t_town, .ref a_t_trial, .ref a_t_saves, .ref a_t_text, .ref a_t_reader])), (a_t_town_leaving, .inr (2, [.ref a_t_town_leaving_cells])), (a_t_town_leaving_cells, .inl (cA, 193, .inl f_t_town_leaving_cells)), (a_t_reader, .inr (0, [.int v_t_reader_inCommand, .int v_t_reader_kind, .int v_t_reader_letters, .int v_t_reader_length, .int v_t_reader_number, .int v_t_reader_digits])), (a_t_town, .inr (4, [.ref a_t_town_state, .ref a_t_town_parents, .ref a_t_town_children, .ref a_t_town_roads, .ref a_t_town_namesIn, .ref a_t_town_weightIn, .ref a_t_town_homes, .ref a_t_town_leaving])), (a_t_town_state, .inr (3, [.ref a_t_town_state_keys, .ref a_t_town_state_weights, .int v_t_town_state_houses_128, .int v_t_town_state_limit, .int v_t_town_state_movedIn, .int v_t_town_state_evicted_128, .int v_t_town_state_built, .int v_t_town_state_tornDown])), (a_t_town_state_keys, .inr (2, [.ref a_t_town_state_keys_cells])), (a_t_town_state_keys_cells, .inl (cA, 193, .inl f_t_town_state_keys_cells_128)), (a_t_town_state_weights, .inr (2, [.ref a_t_town_state_weights_cells])), (a_t_town_state_weights_cells, .inl (cA, 193, .inl f_t_town_state_weights_cells_128)), (a_t_town_parents, .inr (2, [.ref a_t_town_parents_cells])), (a_t_town_parents_cells, .inl (cA, 193, .inl f_t_town_parents_cells_128)), (a_t_town_children, .inr (2, [.ref a_t_town_children_cells])), (a_t_town_children_cells, .inl (cA, 193, .inl f_t_town_children_cells_128)), (a_t_town_roads, .inr (2, [.ref a_t_town_roads_cells])), (a_t_town_roads_cells, .inl (cA, 193, .inl f_t_town_roads_cells_128)), (a_t_town_namesIn, .inr (2, [.ref a_t_town_namesIn_cells])), (a_t_town_namesIn_cells, .inl (cA, 193, .inl f_t_town_namesIn_cells_128)), (a_t_town_weightIn, .inr (2, [.ref a_t_town_weightIn_cells])), (a_t_town_weightIn_cells, .inl (cA, 193, .inl f_t_town_weightIn_cells_128)), (a_t_town_homes, .inr (2, [.ref a_t_town_homes_cells])), (a_t_town_homes_cells, .inl (cA, 24, .inl f_t_town_homes_cells_128))] := hD
    refine lv_pop hx hb dX7_carryOut_131 rfl ?_
    refine lv_goto (tgt := 161) hx hb dX7_carryOut_132 (by decide) ?_
    cases hm
    exact mu_vret hx hb hr hP hD hS hK [0, 4, 5, 6, 7, 8, 9, 10, 11, 12, 13, 14, 15, 16, 17, 18, 19, 20, 21, 1, 2, 3] rfl (by decide) dX7_carryOut_161 hlocks
  rw [if_neg c7_62] at hm
  refine lv_lookup (off := 146) (tgt := 153) hx hb dX7_carryOut_7 (by decide) ((lv_osw c7_43 (by decide)).trans ((lv_osw c7_45 (by decide)).trans ((lv_osw c7_60 (by decide)).trans ((lv_osw c7_61 (by decide)).trans ((lv_osw c7_62 (by decide)).trans rfl))))) (by decide) ?_
  refine lv_aload_n hx hb dX7_carryOut_153 rfl (lv_at hl 0 rfl) ?_
  refine va_get (D := (dC, dI)) (ci := 6) (C := RX7) (T := TX7) (N := 5) hx hb hts iX7_carryOut_X7 hown hK hP 0 rfl rfl 0 (by decide) (hts _ (List.mem_of_getElem? (i := 2) rfl)) (fun _ h9 => h9) rfl dX7_carryOut_154 ?_
  obtain ⟨⟨r157, v_t_town_state_houses_157, v_t_town_state_movedIn_157, f_t_town_state_keys_cells_157, f_t_town_state_weights_cells_157, f_t_town_parents_cells_157, f_t_town_children_cells_157, f_t_town_roads_cells_157, f_t_town_namesIn_cells_157, f_t_town_weightIn_cells_157, f_t_town_homes_cells_157, f_t_town_leaving_cells_157⟩, e157, hm⟩ := bs hm
  try dsimp only at hm
  refine mu_callVe (wr := [(a_t, .inr (6, [.ref a_t_town, .ref a_t_trial, .ref a_t_saves, .ref a_t_text, .ref a_t_reader])), (a_t_reader, .inr (0, [.int v_t_reader_inCommand, .int v_t_reader_kind, .int v_t_reader_letters, .int v_t_reader_length, .int v_t_reader_number, .int v_t_reader_digits]))]) ⟨hx, hb, hml, hown, hts⟩ (kX5_moveAll l dC dI cA a_t_town a_t_town_state a_t_town_parents a_t_town_children a_t_town_roads a_t_town_namesIn a_t_town_weightIn a_t_town_homes a_t_town_leaving a_t_town_state_keys a_t_town_state_weights a_t_town_state_keys_cells a_t_town_state_weights_cells a_t_town_parents_cells a_t_town_children_cells a_t_town_roads_cells a_t_town_namesIn_cells a_t_town_weightIn_cells a_t_town_homes_cells a_t_town_leaving_cells v_t_town_state_houses v_t_town_state_limit v_t_town_state_movedIn v_t_town_state_evicted v_t_town_state_built v_t_town_state_tornDown f_t_town_state_keys_cells f_t_town_state_weights_cells f_t_town_parents_cells f_t_town_children_cells f_t_town_roads_cells f_t_town_namesIn_cells f_t_town_weightIn_cells f_t_town_homes_cells f_t_town_leaving_cells _ r157 v_t_town_state_houses_157 v_t_town_state_movedIn_157 f_t_town_state_keys_cells_157 f_t_town_state_weights_cells_157 f_t_town_parents_cells_157 f_t_town_children_cells_157 f_t_town_roads_cells_157 f_t_town_namesIn_cells_157 f_t_town_weightIn_cells_157 f_t_town_homes_cells_157 f_t_town_leaving_cells_157 e157) (cwV 0 hts gX7_carryOut_X5_moveAll rfl rfl rfl hdX5_moveAll ⟨Nat.le_of_ble_eq_true rfl, Nat.le_of_ble_eq_true rfl⟩) hP hD hS hA hK [1, 2, 3, 4, 5, 6, 7, 8, 9, 10, 11, 12, 13, 14, 15, 16, 17, 18, 19, 20] [0, 21] rfl rfl rfl rfl (by decide +kernel) rfl rfl rfl hl.1 rfl (Nat.le_of_ble_eq_true rfl) dX7_carryOut_157 ⟨Nat.zero_le _, Nat.zero_le _⟩ (fun H locs hP hD hS => ?_)
  have hP : va_P (dC, dI) vwCl [(a_t, .inr (6, [.ref a_t_town, .ref a_t_trial, .ref a_t_saves, .ref a_t_text, .ref a_t_reader])), (a_t_reader, .inr (0, [.int v_t_reader_inCommand, .int v_t_reader_kind, .int v_t_reader_letters, .int v_t_reader_length, .int v_t_reader_number, .int v_t_reader_digits])), (a_t_town, .inr (4, [.ref a_t_town_state, .ref a_t_town_parents, .ref a_t_town_children, .ref a_t_town_roads, .ref a_t_town_namesIn, .ref a_t_town_weightIn, .ref a_t_town_homes, .ref a_t_town_leaving])), (a_t_town_state, .inr (3, [.ref a_t_town_state_keys, .ref a_t_town_state_weights, .int v_t_town_state_houses_157, .int v_t_town_state_limit, .int v_t_town_state_movedIn_157, .int v_t_town_state_evicted, .int v_t_town_state_built, .int v_t_town_state_tornDown])), (a_t_town_state_keys, .inr (2, [.ref a_t_town_state_keys_cells])), (a_t_town_state_keys_cells, .inl (cA, 193, .inl f_t_town_state_keys_cells_157)), (a_t_town_state_weights, .inr (2, [.ref a_t_town_state_weights_cells])), (a_t_town_state_weights_cells, .inl (cA, 193, .inl f_t_town_state_weights_cells_157)), (a_t_town_parents, .inr (2, [.ref a_t_town_parents_cells])), (a_t_town_parents_cells, .inl (cA, 193, .inl f_t_town_parents_cells_157)), (a_t_town_children, .inr (2, [.ref a_t_town_children_cells])), (a_t_town_children_cells, .inl (cA, 193, .inl f_t_town_children_cells_157)), (a_t_town_roads, .inr (2, [.ref a_t_town_roads_cells])), (a_t_town_roads_cells, .inl (cA, 193, .inl f_t_town_roads_cells_157)), (a_t_town_namesIn, .inr (2, [.ref a_t_town_namesIn_cells])), (a_t_town_namesIn_cells, .inl (cA, 193, .inl f_t_town_namesIn_cells_157)), (a_t_town_weightIn, .inr (2, [.ref a_t_town_weightIn_cells])), (a_t_town_weightIn_cells, .inl (cA, 193, .inl f_t_town_weightIn_cells_157)), (a_t_town_homes, .inr (2, [.ref a_t_town_homes_cells])), (a_t_town_homes_cells, .inl (cA, 24, .inl f_t_town_homes_cells_157)), (a_t_town_leaving, .inr (2, [.ref a_t_town_leaving_cells])), (a_t_town_leaving_cells, .inl (cA, 193, .inl f_t_town_leaving_cells_157))] H := hP
  have hD : va_D A [(a_t, .inr (6, [.ref a_t_town, .ref a_t_trial, .ref a_t_saves, .ref a_t_text, .ref a_t_reader])), (a_t_reader, .inr (0, [.int v_t_reader_inCommand, .int v_t_reader_kind, .int v_t_reader_letters, .int v_t_reader_length, .int v_t_reader_number, .int v_t_reader_digits])), (a_t_town, .inr (4, [.ref a_t_town_state, .ref a_t_town_parents, .ref a_t_town_children, .ref a_t_town_roads, .ref a_t_town_namesIn, .ref a_t_town_weightIn, .ref a_t_town_homes, .ref a_t_town_leaving])), (a_t_town_state, .inr (3, [.ref a_t_town_state_keys, .ref a_t_town_state_weights, .int v_t_town_state_houses_157, .int v_t_town_state_limit, .int v_t_town_state_movedIn_157, .int v_t_town_state_evicted, .int v_t_town_state_built, .int v_t_town_state_tornDown])), (a_t_town_state_keys, .inr (2, [.ref a_t_town_state_keys_cells])), (a_t_town_state_keys_cells, .inl (cA, 193, .inl f_t_town_state_keys_cells_157)), (a_t_town_state_weights, .inr (2, [.ref a_t_town_state_weights_cells])), (a_t_town_state_weights_cells, .inl (cA, 193, .inl f_t_town_state_weights_cells_157)), (a_t_town_parents, .inr (2, [.ref a_t_town_parents_cells])), (a_t_town_parents_cells, .inl (cA, 193, .inl f_t_town_parents_cells_157)), (a_t_town_children, .inr (2, [.ref a_t_town_children_cells])), (a_t_town_children_cells, .inl (cA, 193, .inl f_t_town_children_cells_157)), (a_t_town_roads, .inr (2, [.ref a_t_town_roads_cells])), (a_t_town_roads_cells, .inl (cA, 193, .inl f_t_town_roads_cells_157)), (a_t_town_namesIn, .inr (2, [.ref a_t_town_namesIn_cells])), (a_t_town_namesIn_cells, .inl (cA, 193, .inl f_t_town_namesIn_cells_157)), (a_t_town_weightIn, .inr (2, [.ref a_t_town_weightIn_cells])), (a_t_town_weightIn_cells, .inl (cA, 193, .inl f_t_town_weightIn_cells_157)), (a_t_town_homes, .inr (2, [.ref a_t_town_homes_cells])), (a_t_town_homes_cells, .inl (cA, 24, .inl f_t_town_homes_cells_157)), (a_t_town_leaving, .inr (2, [.ref a_t_town_leaving_cells])), (a_t_town_leaving_cells, .inl (cA, 193, .inl f_t_town_leaving_cells_157))] := hD
  refine lv_pop hx hb dX7_carryOut_160 rfl ?_
  cases hm
  exact mu_vret hx hb hr hP hD hS hK [0, 2, 3, 4, 5, 6, 7, 8, 9, 10, 11, 12, 13, 14, 15, 16, 17, 18, 19, 20, 21, 1] rfl (by decide) dX7_carryOut_161 hlocks
def mX7_mix (p0 : Int64) (p2 : Int64) : Int64 :=
  (((31 : Int64) * p0) + p2)
abbrev rmX7_mix : Room := { frames := 0, cells := 0, slots := 0, locals := 0 }
theorem hdX7_mix : yX7_mix.cls = RX7 ∧ yX7_mix.cls ≠ "java/lang/invoke/MethodHandle" ∧ yX7_mix.cls ≠ "java/lang/invoke/VarHandle" ∧ (parseMethodDescriptor yX7_mix.desc).map (fun d => d.parameters.length) = some 2 := by decide +kernel
set_option maxHeartbeats 4000000 in
set_option maxRecDepth 100000 in
theorem kX7_mix (l : Launch) (p0 p2 : Int64) : Met l yX7_mix wsX7_mix rmX7_mix (spc [.long p0, .long p2]) (vp_Sl (fun x => x = (mX7_mix p0 p2))) 0 0 (fun _ => False) := by
  obtain ⟨r, hm⟩ : ∃ r, mX7_mix p0 p2 = r := ⟨_, rfl⟩
  rw [hm]
  unfold mX7_mix at hm
  refine sp_ofW (cc := cX7_mix) (maxL := 4) (ret := (some .long)) (own := RX7) (by decide) rfl rfl (Nat.le_of_ble_eq_true rfl) ?_
  intro p e s m args below meth c hx hb hr hts hown hlocks hml ls hl
  have hl : lv_has ls 4 [(0, .long p0), (2, .long p2)] := hl
  refine lv_ldc2 (v := (31 : Int64)) hx hb hown (hts _ (List.mem_of_getElem? (i := 1) rfl)) dX7_mix_0 ?_
  refine lv_lload_n hx hb dX7_mix_3 rfl (lv_at hl 0 rfl) ?_
  refine lv_lmul hx hb dX7_mix_4 ?_
  refine lv_lload_n hx hb dX7_mix_5 rfl (lv_at hl 1 rfl) ?_
  refine lv_ladd hx hb dX7_mix_6 ?_
  subst hm
  exact ro_lret hx hb hr rfl dX7_mix_7 hlocks
