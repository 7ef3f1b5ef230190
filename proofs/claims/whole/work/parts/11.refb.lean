def mX8_addName_L43 (x1_43 : Int32) : Nat → (Int32) → (Nat → Int32) → Option (Int32 × (Nat → Int32))
  | 0, _, _ => none
  | n + 1, x4_43, f_t_state_L43 =>
    (if (mX8_lengthOf x1_43) < x4_43 then
      some (x4_43, f_t_state_L43)
    else
      ((mX8_addHouse f_t_state_L43 (mX8_shortened x1_43 x4_43)).bind fun f_t_state_59 =>
      mX8_addName_L43 x1_43 n (x4_43 + 1) (upd f_t_state_59 5 ((f_t_state_59 5) + 1))))
def mX8_addName_L93 (x4_93 : Int32) : Nat → (Int32) → (Nat → Int32) → Option (Int32 × (Nat → Int32))
  | 0, _, _ => none
  | n + 1, x5_93, f_t_state_L93 =>
    (if x5_93 ≤ x4_93 then
      some (x5_93, f_t_state_L93)
    else
      ((mX8_name f_t_state_L93 (x5_93 - 1)).bind fun r114 =>
      ((wrA 255 f_t_state_L93 (7 + x5_93) r114).bind fun f_t_state_117 =>
      ((rdA 255 f_t_state_117 ((31 + x5_93) - 1)).bind fun r138 =>
      ((wrA 255 f_t_state_117 (31 + x5_93) r138).bind fun f_t_state_139 =>
      mX8_addName_L93 x4_93 n (x5_93 + (-1)) f_t_state_139)))))
def mX8_addName_J38 (x1_38 : Int32) (x3_38 : Int32) (f_t_state_J38 : Nat → Int32) (x2_38 : Int32) : Option (Int32 × (Nat → Int32)) :=
  ((mX8_addName_L43 x1_38 FU (x3_38 + 1) f_t_state_J38).bind fun (y4_43, f_t_state_E43) =>
  ((mX8_rankOf f_t_state_E43 x1_38).bind fun r80 =>
  ((mX8_addName_L93 r80 FU (f_t_state_E43 1) f_t_state_E43).bind fun (y5_93, f_t_state_E93) =>
  ((wrA 255 f_t_state_E93 (7 + r80) x1_38).bind fun f_t_state_156 =>
  ((wrA 255 f_t_state_156 (31 + r80) x2_38).bind fun f_t_state_167 =>
  some (r80, (upd f_t_state_167 1 ((f_t_state_167 1) + 1))))))))
def mX8_addName (f_t_state : Nat → Int32) (p1 : Int32) (p2 : Int32) : Option (Int32 × (Nat → Int32)) :=
  ((mX8_longestPrefix f_t_state p1).bind fun r2 =>
  ((mX8_findHouse f_t_state (mX8_shortened p1 r2)).bind fun r12 =>
  (if r12 = (-1) then
    ((mX8_addHouse f_t_state (mX8_shortened p1 r2)).bind fun f_t_state_25 =>
    mX8_addName_J38 p1 r2 (upd f_t_state_25 4 ((f_t_state_25 4) + 1)) p2)
  else
    mX8_addName_J38 p1 r2 f_t_state p2)))
abbrev rmX8_addName : Room := { frames := 7, cells := 0, slots := 0, locals := 148 }
abbrev wX8_addName (cA : ClassId) (a_t a_t_state a_t_kept a_t_stack a_t_text : Nat) (v_t_thrown v_t_saved v_t_textLength v_t_place v_t_sign v_t_readLetters v_t_readLength v_t_readNumber : Int32) (f_t_state : Nat → Int32) : va_W := [(a_t, .inr (7, [.int v_t_thrown, .ref a_t_state, .ref a_t_kept, .ref a_t_stack, .int v_t_saved, .ref a_t_text, .int v_t_textLength, .int v_t_place, .int v_t_sign, .int v_t_readLetters, .int v_t_readLength, .int v_t_readNumber])), (a_t_state, .inl (cA, 255, .inl f_t_state))]
theorem iX8_addName_X8 : ∀ w ∈ wsX80, w ∈ wsX8_addName := (fun _ h => List.mem_cons_of_mem _ (List.mem_append_right _ h))
theorem hdX8_addName : yX8_addName.cls = RX8 ∧ yX8_addName.cls ≠ "java/lang/invoke/MethodHandle" ∧ yX8_addName.cls ≠ "java/lang/invoke/VarHandle" ∧ (parseMethodDescriptor yX8_addName.desc).map (fun d => d.parameters.length) = some 2 := by decide +kernel
set_option maxHeartbeats 4000000 in
set_option maxRecDepth 100000 in
theorem wX8_addName_L43 {p : Program} {l : Launch} {e : Env} {s : State} {m : MethodId} {args : Array Value} {below : List Frame} {meth : Method} {c : Code} {Q : State → Prop} {A : Nat → Prop} (dC : Nat → ClassId) (dI : Nat → Nat → Nat) (cA : ClassId) (a_t a_t_state a_t_kept a_t_stack a_t_text : Nat) (v_t_thrown v_t_saved v_t_textLength v_t_place v_t_sign v_t_readLetters v_t_readLength v_t_readNumber p1 p2 x1_43 x2_43 y4_43 : Int32) (f_t_state_E43 : Nat → Int32) (hx : p.tables.exec = Jvm.exec) (hb : c.code = cX8_addName) (hml : c.maxLocals = 6) (hown : s.vm.findClass RX8 = some m.cls) (hts : ∀ w ∈ wsX8_addName, w.before args s = true) (hA : ∀ q, s.heap.size ≤ q → A q) (hK : va_K (dC, dI) vwCl [(cA, .int)] s)
    (kk0 : ∀ (H : Heap) (locs : List Loc), va_P (dC, dI) vwCl [(a_t, .inr (7, [.int v_t_thrown, .ref a_t_state, .ref a_t_kept, .ref a_t_stack, .int v_t_saved, .ref a_t_text, .int v_t_textLength, .int v_t_place, .int v_t_sign, .int v_t_readLetters, .int v_t_readLength, .int v_t_readNumber])), (a_t_state, .inl (cA, 255, .inl f_t_state_E43))] H → va_D A [(a_t, .inr (7, [.int v_t_thrown, .ref a_t_state, .ref a_t_kept, .ref a_t_stack, .int v_t_saved, .ref a_t_text, .int v_t_textLength, .int v_t_place, .int v_t_sign, .int v_t_readLetters, .int v_t_readLength, .int v_t_readNumber])), (a_t_state, .inl (cA, 255, .inl f_t_state_E43))] → va_S A s.heap H locs → ∀ ls : Array Slot, lv_has ls 6 [(0, .ref a_t), (1, .int x1_43), (2, .int x2_43), (4, .int y4_43)] → W p l e (headSpec wsX8_addName rmX8_addName).room s m args below meth c H locs 0 0 Q (F0 m 78 ls [])) :
    ∀ (n : Nat) (x4_43 : Int32) (f_t_state_L43 : Nat → Int32), mX8_addName_L43 x1_43 n x4_43 f_t_state_L43 = some (y4_43, f_t_state_E43) → ∀ (H : Heap) (locs : List Loc), va_P (dC, dI) vwCl [(a_t, .inr (7, [.int v_t_thrown, .ref a_t_state, .ref a_t_kept, .ref a_t_stack, .int v_t_saved, .ref a_t_text, .int v_t_textLength, .int v_t_place, .int v_t_sign, .int v_t_readLetters, .int v_t_readLength, .int v_t_readNumber])), (a_t_state, .inl (cA, 255, .inl f_t_state_L43))] H → va_D A [(a_t, .inr (7, [.int v_t_thrown, .ref a_t_state, .ref a_t_kept, .ref a_t_stack, .int v_t_saved, .ref a_t_text, .int v_t_textLength, .int v_t_place, .int v_t_sign, .int v_t_readLetters, .int v_t_readLength, .int v_t_readNumber])), (a_t_state, .inl (cA, 255, .inl f_t_state_L43))] → va_S A s.heap H locs → ∀ ls : Array Slot, lv_has ls 6 [(0, .ref a_t), (1, .int x1_43), (2, .int x2_43), (4, .int x4_43)] → W p l e (headSpec wsX8_addName rmX8_addName).room s m args below meth c H locs 0 0 Q (F0 m 43 ls []) := by
  intro n
  induction n with
  | zero =>
    intro x4_43 f_t_state_L43 hm
    cases hm
  | succ n ih =>
    intro x4_43 f_t_state_L43 hm H locs hP hD hS ls hl
    rw [mX8_addName_L43] at hm
    refine lv_iload hx hb dX8_addName_43 (lv_at hl 3 rfl) ?_
    refine lv_iload_n hx hb dX8_addName_45 rfl (lv_at hl 1 rfl) ?_
    refine sp_callSe ⟨hx, hb, hml, hown, hts⟩ (kX8_lengthOf l x1_43) (va_cwS 1 hts gX8_addName_X8_lengthOf rfl rfl rfl hdX8_lengthOf.2 ⟨Nat.le_of_ble_eq_true rfl, Nat.le_of_ble_eq_true rfl⟩) rfl hl.1 rfl (Nat.le_of_ble_eq_true rfl) dX8_addName_46 ⟨Nat.zero_le _, Nat.zero_le _⟩ ?_
    refine lv_icmp_gt (tgt := 78) hx hb dX8_addName_49 (by decide) (fun c49 => ?_) (fun c49 => ?_)
    · rw [if_pos c49] at hm
      cases hm
      exact kk0 _ _ (hP.sub [0, 1] rfl) (hD.sub [0, 1] (by decide) rfl) hS _ (lv_sub hl [0, 1, 2, 3] rfl)
    · rw [if_neg c49] at hm
      refine lv_aload_n hx hb dX8_addName_52 rfl (lv_at hl 0 rfl) ?_
      refine lv_iload_n hx hb dX8_addName_53 rfl (lv_at hl 1 rfl) ?_
      refine lv_iload hx hb dX8_addName_54 (lv_at hl 3 rfl) ?_
      refine sp_callSe ⟨hx, hb, hml, hown, hts⟩ (kX8_shortened l x1_43 x4_43) (va_cwS 2 hts gX8_addName_X8_shortened rfl rfl rfl hdX8_shortened.2 ⟨Nat.le_of_ble_eq_true rfl, Nat.le_of_ble_eq_true rfl⟩) rfl hl.1 rfl (Nat.le_of_ble_eq_true rfl) dX8_addName_56 ⟨Nat.zero_le _, Nat.zero_le _⟩ ?_
      obtain ⟨f_t_state_59, e59, hm⟩ := bs hm
      try dsimp only at hm
      refine mu_callVv (wr := []) ⟨hx, hb, hml, hown, hts⟩ (kX8_addHouse l dC dI cA a_t a_t_state a_t_kept a_t_stack a_t_text v_t_thrown v_t_saved v_t_textLength v_t_place v_t_sign v_t_readLetters v_t_readLength v_t_readNumber f_t_state_L43 (mX8_shortened x1_43 x4_43) _ f_t_state_59 e59) (cwV 1 hts gX8_addName_X8_addHouse rfl rfl rfl hdX8_addHouse ⟨Nat.le_of_ble_eq_true rfl, Nat.le_of_ble_eq_true rfl⟩) hP hD hS hA hK [0, 1] [] rfl rfl rfl rfl (by decide) rfl rfl rfl hl.1 rfl (Nat.le_of_ble_eq_true rfl) dX8_addName_59 ⟨Nat.zero_le _, Nat.zero_le _⟩ (fun H locs hP hD hS => ?_)
      have hP : va_P (dC, dI) vwCl [(a_t, .inr (7, [.int v_t_thrown, .ref a_t_state, .ref a_t_kept, .ref a_t_stack, .int v_t_saved, .ref a_t_text, .int v_t_textLength, .int v_t_place, .int v_t_sign, .int v_t_readLetters, .int v_t_readLength, .int v_t_readNumber])), (a_t_state, .inl (cA, 255, .inl f_t_state_59))] H := hP
      have hD : va_D A [(a_t, .inr (7, [.int v_t_thrown, .ref a_t_state, .ref a_t_kept, .ref a_t_stack, .int v_t_saved, .ref a_t_text, .int v_t_textLength, .int v_t_place, .int v_t_sign, .int v_t_readLetters, .int v_t_readLength, .int v_t_readNumber])), (a_t_state, .inl (cA, 255, .inl f_t_state_59))] := hD
      refine lv_aload_n hx hb dX8_addName_62 rfl (lv_at hl 0 rfl) ?_
      refine va_get (D := (dC, dI)) (ci := 7) (C := RX8) (T := TX8) (N := 12) hx hb hts iX8_addName_X8 hown hK hP 0 rfl rfl 1 (by decide) (hts _ (List.mem_of_getElem? (i := 1) rfl)) (fun _ h9 => h9) rfl dX8_addName_63 ?_
      refine lv_iconst (v := 5) hx hb dX8_addName_66 (by decide) ?_
      refine lv_dup2_11 hx hb dX8_addName_67 rfl rfl ?_
      refine xa_ldK hx hb hK hP 1 0 rfl rfl 5 rfl (by decide) (by decide) dX8_addName_68 ?_
      refine lv_iconst (v := 1) hx hb dX8_addName_69 (by decide) ?_
      refine lv_iadd hx hb dX8_addName_70 ?_
      refine xa_stK hx hb hK hP hD hS 1 0 rfl rfl 5 rfl (by decide) (by decide) dX8_addName_71 (fun H locs hP hD hS => ?_)
      have hP : va_P (dC, dI) vwCl [(a_t, .inr (7, [.int v_t_thrown, .ref a_t_state, .ref a_t_kept, .ref a_t_stack, .int v_t_saved, .ref a_t_text, .int v_t_textLength, .int v_t_place, .int v_t_sign, .int v_t_readLetters, .int v_t_readLength, .int v_t_readNumber])), (a_t_state, .inl (cA, 255, .inl (upd f_t_state_59 5 ((f_t_state_59 5) + 1))))] H := hP
      have hD : va_D A [(a_t, .inr (7, [.int v_t_thrown, .ref a_t_state, .ref a_t_kept, .ref a_t_stack, .int v_t_saved, .ref a_t_text, .int v_t_textLength, .int v_t_place, .int v_t_sign, .int v_t_readLetters, .int v_t_readLength, .int v_t_readNumber])), (a_t_state, .inl (cA, 255, .inl (upd f_t_state_59 5 ((f_t_state_59 5) + 1))))] := hD
      refine lv_iinc (v := (x4_43 + 1)) (lv' := [(4, .int (x4_43 + 1)), (0, .ref a_t), (1, .int x1_43), (2, .int x2_43)]) hx hb dX8_addName_72 hl (k := 3) rfl rfl (by decide) rfl (fun ls hl => ?_)
      refine lv_goto (tgt := 43) hx hb dX8_addName_75 (by decide) ?_
      exact ih _ _ hm _ _ (hP.sub [0, 1] rfl) (hD.sub [0, 1] (by decide) rfl) hS _ (lv_sub hl [1, 2, 3, 0] rfl)
set_option maxHeartbeats 4000000 in
set_option maxRecDepth 100000 in
theorem wX8_addName_L93 {p : Program} {l : Launch} {e : Env} {s : State} {m : MethodId} {args : Array Value} {below : List Frame} {meth : Method} {c : Code} {Q : State → Prop} {A : Nat → Prop} (dC : Nat → ClassId) (dI : Nat → Nat → Nat) (cA : ClassId) (a_t a_t_state a_t_kept a_t_stack a_t_text : Nat) (v_t_thrown v_t_saved v_t_textLength v_t_place v_t_sign v_t_readLetters v_t_readLength v_t_readNumber p1 p2 x1_93 x2_93 x4_93 y5_93 : Int32) (f_t_state_E93 : Nat → Int32) (hx : p.tables.exec = Jvm.exec) (hb : c.code = cX8_addName) (hml : c.maxLocals = 6) (hown : s.vm.findClass RX8 = some m.cls) (hts : ∀ w ∈ wsX8_addName, w.before args s = true) (hA : ∀ q, s.heap.size ≤ q → A q) (hK : va_K (dC, dI) vwCl [(cA, .int)] s)
    (kk0 : ∀ (H : Heap) (locs : List Loc), va_P (dC, dI) vwCl [(a_t, .inr (7, [.int v_t_thrown, .ref a_t_state, .ref a_t_kept, .ref a_t_stack, .int v_t_saved, .ref a_t_text, .int v_t_textLength, .int v_t_place, .int v_t_sign, .int v_t_readLetters, .int v_t_readLength, .int v_t_readNumber])), (a_t_state, .inl (cA, 255, .inl f_t_state_E93))] H → va_D A [(a_t, .inr (7, [.int v_t_thrown, .ref a_t_state, .ref a_t_kept, .ref a_t_stack, .int v_t_saved, .ref a_t_text, .int v_t_textLength, .int v_t_place, .int v_t_sign, .int v_t_readLetters, .int v_t_readLength, .int v_t_readNumber])), (a_t_state, .inl (cA, 255, .inl f_t_state_E93))] → va_S A s.heap H locs → ∀ ls : Array Slot, lv_has ls 6 [(0, .ref a_t), (1, .int x1_93), (2, .int x2_93), (4, .int x4_93), (5, .int y5_93)] → W p l e (headSpec wsX8_addName rmX8_addName).room s m args below meth c H locs 0 0 Q (F0 m 146 ls [])) :
    ∀ (n : Nat) (x5_93 : Int32) (f_t_state_L93 : Nat → Int32), mX8_addName_L93 x4_93 n x5_93 f_t_state_L93 = some (y5_93, f_t_state_E93) → ∀ (H : Heap) (locs : List Loc), va_P (dC, dI) vwCl [(a_t, .inr (7, [.int v_t_thrown, .ref a_t_state, .ref a_t_kept, .ref a_t_stack, .int v_t_saved, .ref a_t_text, .int v_t_textLength, .int v_t_place, .int v_t_sign, .int v_t_readLetters, .int v_t_readLength, .int v_t_readNumber])), (a_t_state, .inl (cA, 255, .inl f_t_state_L93))] H → va_D A [(a_t, .inr (7, [.int v_t_thrown, .ref a_t_state, .ref a_t_kept, .ref a_t_stack, .int v_t_saved, .ref a_t_text, .int v_t_textLength, .int v_t_place, .int v_t_sign, .int v_t_readLetters, .int v_t_readLength, .int v_t_readNumber])), (a_t_state, .inl (cA, 255, .inl f_t_state_L93))] → va_S A s.heap H locs → ∀ ls : Array Slot, lv_has ls 6 [(0, .ref a_t), (1, .int x1_93), (2, .int x2_93), (4, .int x4_93), (5, .int x5_93)] → W p l e (headSpec wsX8_addName rmX8_addName).room s m args below meth c H locs 0 0 Q (F0 m 93 ls []) := by
  intro n
  induction n with
  | zero =>
    intro x5_93 f_t_state_L93 hm
    cases hm
  | succ n ih =>
    intro x5_93 f_t_state_L93 hm H locs hP hD hS ls hl
    rw [mX8_addName_L93] at hm
    refine lv_iload hx hb dX8_addName_93 (lv_at hl 4 rfl) ?_
    refine lv_iload hx hb dX8_addName_95 (lv_at hl 3 rfl) ?_
    refine lv_icmp_le (tgt := 146) hx hb dX8_addName_97 (by decide) (fun c97 => ?_) (fun c97 => ?_)
    · rw [if_pos c97] at hm
      cases hm
      exact kk0 _ _ (hP.sub [0, 1] rfl) (hD.sub [0, 1] (by decide) rfl) hS _ (lv_sub hl [0, 1, 2, 3, 4] rfl)
    · rw [if_neg c97] at hm
      refine lv_aload_n hx hb dX8_addName_100 rfl (lv_at hl 0 rfl) ?_
      refine va_get (D := (dC, dI)) (ci := 7) (C := RX8) (T := TX8) (N := 12) hx hb hts iX8_addName_X8 hown hK hP 0 rfl rfl 1 (by decide) (hts _ (List.mem_of_getElem? (i := 1) rfl)) (fun _ h9 => h9) rfl dX8_addName_101 ?_
      refine lv_bipush (v := 7) hx hb dX8_addName_104 (by decide) ?_
      refine lv_iload hx hb dX8_addName_106 (lv_at hl 4 rfl) ?_
      refine lv_iadd hx hb dX8_addName_108 ?_
      refine lv_aload_n hx hb dX8_addName_109 rfl (lv_at hl 0 rfl) ?_
      refine lv_iload hx hb dX8_addName_110 (lv_at hl 4 rfl) ?_
      refine lv_iconst (v := 1) hx hb dX8_addName_112 (by decide) ?_
      refine lv_isub hx hb dX8_addName_113 ?_
      obtain ⟨r114, e114, hm⟩ := bs hm
      try dsimp only at hm
      refine ro_callVe ⟨hx, hb, hml, hown, hts⟩ (kX8_name l dC dI cA a_t a_t_state a_t_kept a_t_stack a_t_text v_t_thrown v_t_saved v_t_textLength v_t_place v_t_sign v_t_readLetters v_t_readLength v_t_readNumber f_t_state_L93 (x5_93 - 1) r114 e114) (cwV 1 hts gX8_addName_X8_name rfl rfl rfl hdX8_name ⟨Nat.le_of_ble_eq_true rfl, Nat.le_of_ble_eq_true rfl⟩) (hP.sub [0, 1] rfl) hK rfl rfl rfl hl.1 rfl (Nat.le_of_ble_eq_true rfl) dX8_addName_114 ⟨Nat.zero_le _, Nat.zero_le _⟩ ?_
      obtain ⟨f_t_state_117, e117, hm⟩ := bs hm
      try dsimp only at hm
      refine xa_stO hx hb hK hP hD hS 1 0 rfl rfl e117 dX8_addName_117 (fun H locs hP hD hS => ?_)
      have hP : va_P (dC, dI) vwCl [(a_t, .inr (7, [.int v_t_thrown, .ref a_t_state, .ref a_t_kept, .ref a_t_stack, .int v_t_saved, .ref a_t_text, .int v_t_textLength, .int v_t_place, .int v_t_sign, .int v_t_readLetters, .int v_t_readLength, .int v_t_readNumber])), (a_t_state, .inl (cA, 255, .inl f_t_state_117))] H := hP
      have hD : va_D A [(a_t, .inr (7, [.int v_t_thrown, .ref a_t_state, .ref a_t_kept, .ref a_t_stack, .int v_t_saved, .ref a_t_text, .int v_t_textLength, .int v_t_place, .int v_t_sign, .int v_t_readLetters, .int v_t_readLength, .int v_t_readNumber])), (a_t_state, .inl (cA, 255, .inl f_t_state_117))] := hD
      refine lv_aload_n hx hb dX8_addName_118 rfl (lv_at hl 0 rfl) ?_
      refine va_get (D := (dC, dI)) (ci := 7) (C := RX8) (T := TX8) (N := 12) hx hb hts iX8_addName_X8 hown hK hP 0 rfl rfl 1 (by decide) (hts _ (List.mem_of_getElem? (i := 1) rfl)) (fun _ h9 => h9) rfl dX8_addName_119 ?_
      refine lv_bipush (v := 31) hx hb dX8_addName_122 (by decide) ?_
      refine lv_iload hx hb dX8_addName_124 (lv_at hl 4 rfl) ?_
      refine lv_iadd hx hb dX8_addName_126 ?_
      refine lv_aload_n hx hb dX8_addName_127 rfl (lv_at hl 0 rfl) ?_
      refine va_get (D := (dC, dI)) (ci := 7) (C := RX8) (T := TX8) (N := 12) hx hb hts iX8_addName_X8 hown hK hP 0 rfl rfl 1 (by decide) (hts _ (List.mem_of_getElem? (i := 1) rfl)) (fun _ h9 => h9) rfl dX8_addName_128 ?_
      refine lv_bipush (v := 31) hx hb dX8_addName_131 (by decide) ?_
      refine lv_iload hx hb dX8_addName_133 (lv_at hl 4 rfl) ?_
      refine lv_iadd hx hb dX8_addName_135 ?_
      refine lv_iconst (v := 1) hx hb dX8_addName_136 (by decide) ?_
      refine lv_isub hx hb dX8_addName_137 ?_
      obtain ⟨r138, e138, hm⟩ := bs hm
      try dsimp only at hm
      refine xa_ldO hx hb hK hP 1 0 rfl rfl e138 dX8_addName_138 ?_
      obtain ⟨f_t_state_139, e139, hm⟩ := bs hm
      try dsimp only at hm
      refine xa_stO hx hb hK hP hD hS 1 0 rfl rfl e139 dX8_addName_139 (fun H locs hP hD hS => ?_)
      have hP : va_P (dC, dI) vwCl [(a_t, .inr (7, [.int v_t_thrown, .ref a_t_state, .ref a_t_kept, .ref a_t_stack, .int v_t_saved, .ref a_t_text, .int v_t_textLength, .int v_t_place, .int v_t_sign, .int v_t_readLetters, .int v_t_readLength, .int v_t_readNumber])), (a_t_state, .inl (cA, 255, .inl f_t_state_139))] H := hP
      have hD : va_D A [(a_t, .inr (7, [.int v_t_thrown, .ref a_t_state, .ref a_t_kept, .ref a_t_stack, .int v_t_saved, .ref a_t_text, .int v_t_textLength, .int v_t_place, .int v_t_sign, .int v_t_readLetters, .int v_t_readLength, .int v_t_readNumber])), (a_t_state, .inl (cA, 255, .inl f_t_state_139))] := hD
      refine lv_iinc (v := (x5_93 + (-1))) (lv' := [(5, .int (x5_93 + (-1))), (0, .ref a_t), (1, .int x1_93), (2, .int x2_93), (4, .int x4_93)]) hx hb dX8_addName_140 hl (k := 4) rfl rfl (by decide) rfl (fun ls hl => ?_)
      refine lv_goto (tgt := 93) hx hb dX8_addName_143 (by decide) ?_
      exact ih _ _ hm _ _ (hP.sub [0, 1] rfl) (hD.sub [0, 1] (by decide) rfl) hS _ (lv_sub hl [1, 2, 3, 4, 0] rfl)
set_option maxHeartbeats 4000000 in
set_option maxRecDepth 100000 in
theorem jX8_addName_J38 {p : Program} {l : Launch} {e : Env} {s : State} {m : MethodId} {args : Array Value} {below : List Frame} {meth : Method} {c : Code} {A : Nat → Prop} (dC : Nat → ClassId) (dI : Nat → Nat → Nat) (cA : ClassId) (a_t a_t_state a_t_kept a_t_stack a_t_text : Nat) (v_t_thrown v_t_saved v_t_textLength v_t_place v_t_sign v_t_readLetters v_t_readLength v_t_readNumber p1 p2 x1_38 x2_38 x3_38 : Int32) (f_t_state_J38 : Nat → Int32) (r : Int32) (o_f_t_state : Nat → Int32) (hx : p.tables.exec = Jvm.exec) (hb : c.code = cX8_addName) (hr : meth.sig.returnType = (some .int)) (hml : c.maxLocals = 6) (hown : s.vm.findClass RX8 = some m.cls) (hts : ∀ w ∈ wsX8_addName, w.before args s = true) (hlocks : meth.locks = false) (hA : ∀ q, s.heap.size ≤ q → A q) (hK : va_K (dC, dI) vwCl [(cA, .int)] s) (hm : mX8_addName_J38 x1_38 x3_38 f_t_state_J38 x2_38 = some (r, o_f_t_state)) (H : Heap) (locs : List Loc) (hP : va_P (dC, dI) vwCl [(a_t, .inr (7, [.int v_t_thrown, .ref a_t_state, .ref a_t_kept, .ref a_t_stack, .int v_t_saved, .ref a_t_text, .int v_t_textLength, .int v_t_place, .int v_t_sign, .int v_t_readLetters, .int v_t_readLength, .int v_t_readNumber])), (a_t_state, .inl (cA, 255, .inl f_t_state_J38))] H) (hD : va_D A [(a_t, .inr (7, [.int v_t_thrown, .ref a_t_state, .ref a_t_kept, .ref a_t_stack, .int v_t_saved, .ref a_t_text, .int v_t_textLength, .int v_t_place, .int v_t_sign, .int v_t_readLetters, .int v_t_readLength, .int v_t_readNumber])), (a_t_state, .inl (cA, 255, .inl f_t_state_J38))]) (hS : va_S A s.heap H locs) (ls : Array Slot) (hl : lv_has ls 6 [(0, .ref a_t), (1, .int x1_38), (2, .int x2_38), (3, .int x3_38)]) :
    W p l e (headSpec wsX8_addName rmX8_addName).room s m args below meth c H locs 0 0 (MQ below (mqi (dC, dI) [(cA, .int)] A (wX8_addName cA a_t a_t_state a_t_kept a_t_stack a_t_text v_t_thrown v_t_saved v_t_textLength v_t_place v_t_sign v_t_readLetters v_t_readLength v_t_readNumber o_f_t_state) (fun x => x = r)) args s 0 0 A) (F0 m 38 ls []) := by
  unfold mX8_addName_J38 at hm
  refine lv_iload_n hx hb dX8_addName_38 rfl (lv_at hl 3 rfl) ?_
  refine lv_iconst (v := 1) hx hb dX8_addName_39 (by decide) ?_
  refine lv_iadd hx hb dX8_addName_40 ?_
  refine lv_istore (lv' := [(4, .int (x3_38 + 1)), (0, .ref a_t), (1, .int x1_38), (2, .int x2_38), (3, .int x3_38)]) hx hb dX8_addName_41 hl (by decide) rfl (fun ls hl => ?_)
  obtain ⟨⟨y4_43, f_t_state_E43⟩, e43, hm⟩ := bs hm
  try dsimp only at hm
  refine wX8_addName_L43 dC dI cA a_t a_t_state a_t_kept a_t_stack a_t_text v_t_thrown v_t_saved v_t_textLength v_t_place v_t_sign v_t_readLetters v_t_readLength v_t_readNumber p1 p2 x1_38 x2_38 y4_43 f_t_state_E43 hx hb hml hown hts hA hK ?_ FU _ _ e43 _ _ (hP.sub [0, 1] rfl) (hD.sub [0, 1] (by decide) rfl) hS _ (lv_sub hl [1, 2, 3, 0] rfl)
  · intro H locs hP hD hS ls hl
    refine lv_aload_n hx hb dX8_addName_78 rfl (lv_at hl 0 rfl) ?_
    refine lv_iload_n hx hb dX8_addName_79 rfl (lv_at hl 1 rfl) ?_
    obtain ⟨r80, e80, hm⟩ := bs hm
    try dsimp only at hm
    refine ro_callVe ⟨hx, hb, hml, hown, hts⟩ (kX8_rankOf l dC dI cA a_t a_t_state a_t_kept a_t_stack a_t_text v_t_thrown v_t_saved v_t_textLength v_t_place v_t_sign v_t_readLetters v_t_readLength v_t_readNumber f_t_state_E43 x1_38 r80 e80) (cwV 1 hts gX8_addName_X8_rankOf rfl rfl rfl hdX8_rankOf ⟨Nat.le_of_ble_eq_true rfl, Nat.le_of_ble_eq_true rfl⟩) (hP.sub [0, 1] rfl) hK rfl rfl rfl hl.1 rfl (Nat.le_of_ble_eq_true rfl) dX8_addName_80 ⟨Nat.zero_le _, Nat.zero_le _⟩ ?_
    refine lv_istore (lv' := [(4, .int r80), (0, .ref a_t), (1, .int x1_38), (2, .int x2_38)]) hx hb dX8_addName_83 hl (by decide) rfl (fun ls hl => ?_)
    refine lv_aload_n hx hb dX8_addName_85 rfl (lv_at hl 1 rfl) ?_
    refine va_get (D := (dC, dI)) (ci := 7) (C := RX8) (T := TX8) (N := 12) hx hb hts iX8_addName_X8 hown hK hP 0 rfl rfl 1 (by decide) (hts _ (List.mem_of_getElem? (i := 1) rfl)) (fun _ h9 => h9) rfl dX8_addName_86 ?_
    refine lv_iconst (v := 1) hx hb dX8_addName_89 (by decide) ?_
    refine xa_ldK hx hb hK hP 1 0 rfl rfl 1 rfl (by decide) (by decide) dX8_addName_90 ?_
    refine lv_istore (lv' := [(5, .int (f_t_state_E43 1)), (4, .int r80), (0, .ref a_t), (1, .int x1_38), (2, .int x2_38)]) hx hb dX8_addName_91 hl (by decide) rfl (fun ls hl => ?_)
    obtain ⟨⟨y5_93, f_t_state_E93⟩, e93, hm⟩ := bs hm
    try dsimp only at hm
    refine wX8_addName_L93 dC dI cA a_t a_t_state a_t_kept a_t_stack a_t_text v_t_thrown v_t_saved v_t_textLength v_t_place v_t_sign v_t_readLetters v_t_readLength v_t_readNumber p1 p2 x1_38 x2_38 r80 y5_93 f_t_state_E93 hx hb hml hown hts hA hK ?_ FU _ _ e93 _ _ (hP.sub [0, 1] rfl) (hD.sub [0, 1] (by decide) rfl) hS _ (lv_sub hl [2, 3, 4, 1, 0] rfl)
    · intro H locs hP hD hS ls hl
      refine lv_aload_n hx hb dX8_addName_146 rfl (lv_at hl 0 rfl) ?_
      refine va_get (D := (dC, dI)) (ci := 7) (C := RX8) (T := TX8) (N := 12) hx hb hts iX8_addName_X8 hown hK hP 0 rfl rfl 1 (by decide) (hts _ (List.mem_of_getElem? (i := 1) rfl)) (fun _ h9 => h9) rfl dX8_addName_147 ?_
      refine lv_bipush (v := 7) hx hb dX8_addName_150 (by decide) ?_
      refine lv_iload hx hb dX8_addName_152 (lv_at hl 3 rfl) ?_
      refine lv_iadd hx hb dX8_addName_154 ?_
      refine lv_iload_n hx hb dX8_addName_155 rfl (lv_at hl 1 rfl) ?_
      obtain ⟨f_t_state_156, e156, hm⟩ := bs hm
      try dsimp only at hm
      refine xa_stO hx hb hK hP hD hS 1 0 rfl rfl e156 dX8_addName_156 (fun H locs hP hD hS => ?_)
      have hP : va_P (dC, dI) vwCl [(a_t, .inr (7, [.int v_t_thrown, .ref a_t_state, .ref a_t_kept, .ref a_t_stack, .int v_t_saved, .ref a_t_text, .int v_t_textLength, .int v_t_place, .int v_t_sign, .int v_t_readLetters, .int v_t_readLength, .int v_t_readNumber])), (a_t_state, .inl (cA, 255, .inl f_t_state_156))] H := hP
      have hD : va_D A [(a_t, .inr (7, [.int v_t_thrown, .ref a_t_state, .ref a_t_kept, .ref a_t_stack, .int v_t_saved, .ref a_t_text, .int v_t_textLength, .int v_t_place, .int v_t_sign, .int v_t_readLetters, .int v_t_readLength, .int v_t_readNumber])), (a_t_state, .inl (cA, 255, .inl f_t_state_156))] := hD
      refine lv_aload_n hx hb dX8_addName_157 rfl (lv_at hl 0 rfl) ?_
      refine va_get (D := (dC, dI)) (ci := 7) (C := RX8) (T := TX8) (N := 12) hx hb hts iX8_addName_X8 hown hK hP 0 rfl rfl 1 (by decide) (hts _ (List.mem_of_getElem? (i := 1) rfl)) (fun _ h9 => h9) rfl dX8_addName_158 ?_
      refine lv_bipush (v := 31) hx hb dX8_addName_161 (by decide) ?_
      refine lv_iload hx hb dX8_addName_163 (lv_at hl 3 rfl) ?_
      refine lv_iadd hx hb dX8_addName_165 ?_
      refine lv_iload_n hx hb dX8_addName_166 rfl (lv_at hl 2 rfl) ?_
      obtain ⟨f_t_state_167, e167, hm⟩ := bs hm
      try dsimp only at hm
      refine xa_stO hx hb hK hP hD hS 1 0 rfl rfl e167 dX8_addName_167 (fun H locs hP hD hS => ?_)
      have hP : va_P (dC, dI) vwCl [(a_t, .inr (7, [.int v_t_thrown, .ref a_t_state, .ref a_t_kept, .ref a_t_stack, .int v_t_saved, .ref a_t_text, .int v_t_textLength, .int v_t_place, .int v_t_sign, .int v_t_readLetters, .int v_t_readLength, .int v_t_readNumber])), (a_t_state, .inl (cA, 255, .inl f_t_state_167))] H := hP
      have hD : va_D A [(a_t, .inr (7, [.int v_t_thrown, .ref a_t_state, .ref a_t_kept, .ref a_t_stack, .int v_t_saved, .ref a_t_text, .int v_t_textLength, .int v_t_place, .int v_t_sign, .int v_t_readLetters, .int v_t_readLength, .int v_t_readNumber])), (a_t_state, .inl (cA, 255, .inl f_t_state_167))] := hD
      refine lv_aload_n hx hb dX8_addName_168 rfl (lv_at hl 0 rfl) ?_
      refine va_get (D := (dC, dI)) (ci := 7) (C := RX8) (T := TX8) (N := 12) hx hb hts iX8_addName_X8 hown hK hP 0 rfl rfl 1 (by decide) (hts _ (List.mem_of_getElem? (i := 1) rfl)) (fun _ h9 => h9) rfl dX8_addName_169 ?_
      refine lv_iconst (v := 1) hx hb dX8_addName_172 (by decide) ?_
      refine lv_dup2_11 hx hb dX8_addName_173 rfl rfl ?_
      refine xa_ldK hx hb hK hP 1 0 rfl rfl 1 rfl (by decide) (by decide) dX8_addName_174 ?_
      refine lv_iconst (v := 1) hx hb dX8_addName_175 (by decide) ?_
      refine lv_iadd hx hb dX8_addName_176 ?_
      refine xa_stK hx hb hK hP hD hS 1 0 rfl rfl 1 rfl (by decide) (by decide) dX8_addName_177 (fun H locs hP hD hS => ?_)
      have hP : va_P (dC, dI) vwCl [(a_t, .inr (7, [.int v_t_thrown, .ref a_t_state, .ref a_t_kept, .ref a_t_stack, .int v_t_saved, .ref a_t_text, .int v_t_textLength, .int v_t_place, .int v_t_sign, .int v_t_readLetters, .int v_t_readLength, .int v_t_readNumber])), (a_t_state, .inl (cA, 255, .inl (upd f_t_state_167 1 ((f_t_state_167 1) + 1))))] H := hP
      have hD : va_D A [(a_t, .inr (7, [.int v_t_thrown, .ref a_t_state, .ref a_t_kept, .ref a_t_stack, .int v_t_saved, .ref a_t_text, .int v_t_textLength, .int v_t_place, .int v_t_sign, .int v_t_readLetters, .int v_t_readLength, .int v_t_readNumber])), (a_t_state, .inl (cA, 255, .inl (upd f_t_state_167 1 ((f_t_state_167 1) + 1))))] := hD
      refine lv_iload hx hb dX8_addName_178 (lv_at hl 3 rfl) ?_
      cases hm
      exact mu_iret hx hb hr rfl rfl hP hD hS hK [0, 1] rfl (by decide) dX8_addName_180 hlocks
set_option maxHeartbeats 4000000 in
set_option maxRecDepth 100000 in
theorem kX8_addName (l : Launch) (dC : Nat → ClassId) (dI : Nat → Nat → Nat) (cA : ClassId) (a_t a_t_state a_t_kept a_t_stack a_t_text : Nat) (v_t_thrown v_t_saved v_t_textLength v_t_place v_t_sign v_t_readLetters v_t_readLength v_t_readNumber : Int32) (f_t_state : Nat → Int32) (p1 p2 : Int32) (sz : Nat) (r : Int32) (o_f_t_state : Nat → Int32) (hm : (mX8_addName f_t_state p1 p2) = some (r, o_f_t_state)) : Met l yX8_addName wsX8_addName rmX8_addName (mpc (dC, dI) [(cA, .int)] (wX8_addName cA a_t a_t_state a_t_kept a_t_stack a_t_text v_t_thrown v_t_saved v_t_textLength v_t_place v_t_sign v_t_readLetters v_t_readLength v_t_readNumber f_t_state) [.ref a_t, .int p1, .int p2] sz) (mqi (dC, dI) [(cA, .int)] (va_A (wX8_addName cA a_t a_t_state a_t_kept a_t_stack a_t_text v_t_thrown v_t_saved v_t_textLength v_t_place v_t_sign v_t_readLetters v_t_readLength v_t_readNumber f_t_state) sz) (wX8_addName cA a_t a_t_state a_t_kept a_t_stack a_t_text v_t_thrown v_t_saved v_t_textLength v_t_place v_t_sign v_t_readLetters v_t_readLength v_t_readNumber o_f_t_state) (fun x => x = r)) 0 0 (va_A (wX8_addName cA a_t a_t_state a_t_kept a_t_stack a_t_text v_t_thrown v_t_saved v_t_textLength v_t_place v_t_sign v_t_readLetters v_t_readLength v_t_readNumber f_t_state) sz) := by
  unfold mX8_addName at hm
  refine mu_ofW (Qc := fun A => mqi (dC, dI) [(cA, .int)] A (wX8_addName cA a_t a_t_state a_t_kept a_t_stack a_t_text v_t_thrown v_t_saved v_t_textLength v_t_place v_t_sign v_t_readLetters v_t_readLength v_t_readNumber o_f_t_state) (fun x => x = r)) (cc := cX8_addName) (maxL := 6) (ret := (some .int)) (own := RX8) (by decide) rfl rfl (Nat.le_of_ble_eq_true rfl) ?_
  intro p e s m args below meth c hx hb hr hts hown hlocks hml hin A hA hP hD hS hK ls hl
  have hl : lv_has ls 6 [(0, .ref a_t), (1, .int p1), (2, .int p2)] := hl
  have hP : va_P (dC, dI) vwCl [(a_t, .inr (7, [.int v_t_thrown, .ref a_t_state, .ref a_t_kept, .ref a_t_stack, .int v_t_saved, .ref a_t_text, .int v_t_textLength, .int v_t_place, .int v_t_sign, .int v_t_readLetters, .int v_t_readLength, .int v_t_readNumber])), (a_t_state, .inl (cA, 255, .inl f_t_state))] s.heap := hP
  have hD : va_D A [(a_t, .inr (7, [.int v_t_thrown, .ref a_t_state, .ref a_t_kept, .ref a_t_stack, .int v_t_saved, .ref a_t_text, .int v_t_textLength, .int v_t_place, .int v_t_sign, .int v_t_readLetters, .int v_t_readLength, .int v_t_readNumber])), (a_t_state, .inl (cA, 255, .inl f_t_state))] := hD
  refine lv_aload_n hx hb dX8_addName_0 rfl (lv_at hl 0 rfl) ?_
  refine lv_iload_n hx hb dX8_addName_1 rfl (lv_at hl 1 rfl) ?_
  obtain ⟨r2, e2, hm⟩ := bs hm
  try dsimp only at hm
  refine ro_callVe ⟨hx, hb, hml, hown, hts⟩ (kX8_longestPrefix l dC dI cA a_t a_t_state a_t_kept a_t_stack a_t_text v_t_thrown v_t_saved v_t_textLength v_t_place v_t_sign v_t_readLetters v_t_readLength v_t_readNumber f_t_state p1 r2 e2) (cwV 1 hts gX8_addName_X8_longestPrefix rfl rfl rfl hdX8_longestPrefix ⟨Nat.le_of_ble_eq_true rfl, Nat.le_of_ble_eq_true rfl⟩) (hP.sub [0, 1] rfl) hK rfl rfl rfl hl.1 rfl (Nat.le_of_ble_eq_true rfl) dX8_addName_2 ⟨Nat.zero_le _, Nat.zero_le _⟩ ?_
  refine lv_istore_n (lv' := [(3, .int r2), (0, .ref a_t), (1, .int p1), (2, .int p2)]) hx hb dX8_addName_5 rfl hl (by decide) rfl (fun ls hl => ?_)
  refine lv_aload_n hx hb dX8_addName_6 rfl (lv_at hl 1 rfl) ?_
  refine lv_iload_n hx hb dX8_addName_7 rfl (lv_at hl 2 rfl) ?_
  refine lv_iload_n hx hb dX8_addName_8 rfl (lv_at hl 0 rfl) ?_
  refine sp_callSe ⟨hx, hb, hml, hown, hts⟩ (kX8_shortened l p1 r2) (va_cwS 2 hts gX8_addName_X8_shortened rfl rfl rfl hdX8_shortened.2 ⟨Nat.le_of_ble_eq_true rfl, Nat.le_of_ble_eq_true rfl⟩) rfl hl.1 rfl (Nat.le_of_ble_eq_true rfl) dX8_addName_9 ⟨Nat.zero_le _, Nat.zero_le _⟩ ?_
  obtain ⟨r12, e12, hm⟩ := bs hm
  try dsimp only at hm
  refine ro_callVe ⟨hx, hb, hml, hown, hts⟩ (kX8_findHouse l dC dI cA a_t a_t_state a_t_kept a_t_stack a_t_text v_t_thrown v_t_saved v_t_textLength v_t_place v_t_sign v_t_readLetters v_t_readLength v_t_readNumber f_t_state (mX8_shortened p1 r2) r12 e12) (cwV 1 hts gX8_addName_X8_findHouse rfl rfl rfl hdX8_findHouse ⟨Nat.le_of_ble_eq_true rfl, Nat.le_of_ble_eq_true rfl⟩) (hP.sub [0, 1] rfl) hK rfl rfl rfl hl.1 rfl (Nat.le_of_ble_eq_true rfl) dX8_addName_12 ⟨Nat.zero_le _, Nat.zero_le _⟩ ?_
  refine lv_iconst (v := (-1)) hx hb dX8_addName_15 (by decide) ?_
  refine lv_icmp_ne (tgt := 38) hx hb dX8_addName_16 (by decide) (fun c16 => ?_) (fun c16 => ?_)
  · rw [if_neg c16] at hm
    exact jX8_addName_J38 dC dI cA a_t a_t_state a_t_kept a_t_stack a_t_text v_t_thrown v_t_saved v_t_textLength v_t_place v_t_sign v_t_readLetters v_t_readLength v_t_readNumber p1 p2 p1 p2 r2 f_t_state _ _ hx hb hr hml hown hts hlocks hA hK hm _ _ (hP.sub [0, 1] rfl) (hD.sub [0, 1] (by decide) rfl) hS _ (lv_sub hl [1, 2, 3, 0] rfl)
  · rw [if_pos c16] at hm
    refine lv_aload_n hx hb dX8_addName_19 rfl (lv_at hl 1 rfl) ?_
    refine lv_iload_n hx hb dX8_addName_20 rfl (lv_at hl 2 rfl) ?_
    refine lv_iload_n hx hb dX8_addName_21 rfl (lv_at hl 0 rfl) ?_
    refine sp_callSe ⟨hx, hb, hml, hown, hts⟩ (kX8_shortened l p1 r2) (va_cwS 2 hts gX8_addName_X8_shortened rfl rfl rfl hdX8_shortened.2 ⟨Nat.le_of_ble_eq_true rfl, Nat.le_of_ble_eq_true rfl⟩) rfl hl.1 rfl (Nat.le_of_ble_eq_true rfl) dX8_addName_22 ⟨Nat.zero_le _, Nat.zero_le _⟩ ?_
    obtain ⟨f_t_state_25, e25, hm⟩ := bs hm
    try dsimp only at hm
    refine mu_callVv (wr := []) ⟨hx, hb, hml, hown, hts⟩ (kX8_addHouse l dC dI cA a_t a_t_state a_t_kept a_t_stack a_t_text v_t_thrown v_t_saved v_t_textLength v_t_place v_t_sign v_t_readLetters v_t_readLength v_t_readNumber f_t_state (mX8_shortened p1 r2) _ f_t_state_25 e25) (cwV 1 hts gX8_addName_X8_addHouse rfl rfl rfl hdX8_addHouse ⟨Nat.le_of_ble_eq_true rfl, Nat.le_of_ble_eq_true rfl⟩) hP hD hS hA hK [0, 1] [] rfl rfl rfl rfl (by decide) rfl rfl rfl hl.1 rfl (Nat.le_of_ble_eq_true rfl) dX8_addName_25 ⟨Nat.zero_le _, Nat.zero_le _⟩ (fun H locs hP hD hS => ?_)
    have hP : va_P (dC, dI) vwCl [(a_t, .inr (7, [.int v_t_thrown, .ref a_t_state, .ref a_t_kept, .ref a_t_stack, .int v_t_saved, .ref a_t_text, .int v_t_textLength, .int v_t_place, .int v_t_sign, .int v_t_readLetters, .int v_t_readLength, .int v_t_readNumber])), (a_t_state, .inl (cA, 255, .inl f_t_state_25))] H := hP
    have hD : va_D A [(a_t, .inr (7, [.int v_t_thrown, .ref a_t_state, .ref a_t_kept, .ref a_t_stack, .int v_t_saved, .ref a_t_text, .int v_t_textLength, .int v_t_place, .int v_t_sign, .int v_t_readLetters, .int v_t_readLength, .int v_t_readNumber])), (a_t_state, .inl (cA, 255, .inl f_t_state_25))] := hD
    refine lv_aload_n hx hb dX8_addName_28 rfl (lv_at hl 1 rfl) ?_
    refine va_get (D := (dC, dI)) (ci := 7) (C := RX8) (T := TX8) (N := 12) hx hb hts iX8_addName_X8 hown hK hP 0 rfl rfl 1 (by decide) (hts _ (List.mem_of_getElem? (i := 1) rfl)) (fun _ h9 => h9) rfl dX8_addName_29 ?_
    refine lv_iconst (v := 4) hx hb dX8_addName_32 (by decide) ?_
    refine lv_dup2_11 hx hb dX8_addName_33 rfl rfl ?_
    refine xa_ldK hx hb hK hP 1 0 rfl rfl 4 rfl (by decide) (by decide) dX8_addName_34 ?_
    refine lv_iconst (v := 1) hx hb dX8_addName_35 (by decide) ?_
    refine lv_iadd hx hb dX8_addName_36 ?_
    refine xa_stK hx hb hK hP hD hS 1 0 rfl rfl 4 rfl (by decide) (by decide) dX8_addName_37 (fun H locs hP hD hS => ?_)
    have hP : va_P (dC, dI) vwCl [(a_t, .inr (7, [.int v_t_thrown, .ref a_t_state, .ref a_t_kept, .ref a_t_stack, .int v_t_saved, .ref a_t_text, .int v_t_textLength, .int v_t_place, .int v_t_sign, .int v_t_readLetters, .int v_t_readLength, .int v_t_readNumber])), (a_t_state, .inl (cA, 255, .inl (upd f_t_state_25 4 ((f_t_state_25 4) + 1))))] H := hP
    have hD : va_D A [(a_t, .inr (7, [.int v_t_thrown, .ref a_t_state, .ref a_t_kept, .ref a_t_stack, .int v_t_saved, .ref a_t_text, .int v_t_textLength, .int v_t_place, .int v_t_sign, .int v_t_readLetters, .int v_t_readLength, .int v_t_readNumber])), (a_t_state, .inl (cA, 255, .inl (upd f_t_state_25 4 ((f_t_state_25 4) + 1))))] := hD
    exact jX8_addName_J38 dC dI cA a_t a_t_state a_t_kept a_t_stack a_t_text v_t_thrown v_t_saved v_t_textLength v_t_place v_t_sign v_t_readLetters v_t_readLength v_t_readNumber p1 p2 p1 p2 r2 (upd f_t_state_25 4 ((f_t_state_25 4) + 1)) _ _ hx hb hr hml hown hts hlocks hA hK hm _ _ (hP.sub [0, 1] rfl) (hD.sub [0, 1] (by decide) rfl) hS _ (lv_sub hl [1, 2, 3, 0] rfl)
def mX8_add (v_t_saved : Int32) (f_t_state : Nat → Int32) (f_t_stack : Nat → Int32) (p1 : Int32) (p2 : Int32) (p3 : Int32) : Option (Int32 × Int32 × Int32 × (Nat → Int32) × (Nat → Int32)) :=
  ((mX8_whyNotAdded f_t_state p1 p2 p3).bind fun r5 =>
  (if r5 ≤ 0 then
    ((mX8_save v_t_saved f_t_state f_t_stack).bind fun (v_t_saved_21, f_t_stack_21) =>
    ((mX8_addName f_t_state (mX8_code p1 p2) p3).bind fun (r31, f_t_state_31) =>
    some (r31, r5, v_t_saved_21, f_t_state_31, f_t_stack_21)))
  else
    some (0, r5, v_t_saved, f_t_state, f_t_stack)))
abbrev rmX8_add : Room := { frames := 8, cells := 0, slots := 0, locals := 173 }
abbrev wX8_add (cA : ClassId) (a_t a_t_state a_t_kept a_t_stack a_t_text : Nat) (v_t_thrown v_t_saved v_t_textLength v_t_place v_t_sign v_t_readLetters v_t_readLength v_t_readNumber : Int32) (f_t_state f_t_stack : Nat → Int32) : va_W := [(a_t, .inr (7, [.int v_t_thrown, .ref a_t_state, .ref a_t_kept, .ref a_t_stack, .int v_t_saved, .ref a_t_text, .int v_t_textLength, .int v_t_place, .int v_t_sign, .int v_t_readLetters, .int v_t_readLength, .int v_t_readNumber])), (a_t_state, .inl (cA, 255, .inl f_t_state)), (a_t_stack, .inl (cA, 1020, .inl f_t_stack))]
theorem iX8_add_X8 : ∀ w ∈ wsX80, w ∈ wsX8_add := (fun _ h => List.mem_cons_of_mem _ (List.mem_append_right _ h))
theorem hdX8_add : yX8_add.cls = RX8 ∧ yX8_add.cls ≠ "java/lang/invoke/MethodHandle" ∧ yX8_add.cls ≠ "java/lang/invoke/VarHandle" ∧ (parseMethodDescriptor yX8_add.desc).map (fun d => d.parameters.length) = some 3 := by decide +kernel
set_option maxHeartbeats 4000000 in
set_option maxRecDepth 100000 in
theorem kX8_add (l : Launch) (dC : Nat → ClassId) (dI : Nat → Nat → Nat) (cA : ClassId) (a_t a_t_state a_t_kept a_t_stack a_t_text : Nat) (v_t_thrown v_t_saved v_t_textLength v_t_place v_t_sign v_t_readLetters v_t_readLength v_t_readNumber : Int32) (f_t_state f_t_stack : Nat → Int32) (p1 p2 p3 : Int32) (sz : Nat) (r o_v_t_thrown o_v_t_saved : Int32) (o_f_t_state o_f_t_stack : Nat → Int32) (hm : (mX8_add v_t_saved f_t_state f_t_stack p1 p2 p3) = some (r, o_v_t_thrown, o_v_t_saved, o_f_t_state, o_f_t_stack)) : Met l yX8_add wsX8_add rmX8_add (mpc (dC, dI) [(cA, .int)] (wX8_add cA a_t a_t_state a_t_kept a_t_stack a_t_text v_t_thrown v_t_saved v_t_textLength v_t_place v_t_sign v_t_readLetters v_t_readLength v_t_readNumber f_t_state f_t_stack) [.ref a_t, .int p1, .int p2, .int p3] sz) (mqi (dC, dI) [(cA, .int)] (va_A (wX8_add cA a_t a_t_state a_t_kept a_t_stack a_t_text v_t_thrown v_t_saved v_t_textLength v_t_place v_t_sign v_t_readLetters v_t_readLength v_t_readNumber f_t_state f_t_stack) sz) (wX8_add cA a_t a_t_state a_t_kept a_t_stack a_t_text o_v_t_thrown o_v_t_saved v_t_textLength v_t_place v_t_sign v_t_readLetters v_t_readLength v_t_readNumber o_f_t_state o_f_t_stack) (fun x => x = r)) 0 0 (va_A (wX8_add cA a_t a_t_state a_t_kept a_t_stack a_t_text v_t_thrown v_t_saved v_t_textLength v_t_place v_t_sign v_t_readLetters v_t_readLength v_t_readNumber f_t_state f_t_stack) sz) := by
  unfold mX8_add at hm
  refine mu_ofW (Qc := fun A => mqi (dC, dI) [(cA, .int)] A (wX8_add cA a_t a_t_state a_t_kept a_t_stack a_t_text o_v_t_thrown o_v_t_saved v_t_textLength v_t_place v_t_sign v_t_readLetters v_t_readLength v_t_readNumber o_f_t_state o_f_t_stack) (fun x => x = r)) (cc := cX8_add) (maxL := 4) (ret := (some .int)) (own := RX8) (by decide) rfl rfl (Nat.le_of_ble_eq_true rfl) ?_
  intro p e s m args below meth c hx hb hr hts hown hlocks hml hin A hA hP hD hS hK ls hl
  have hl : lv_has ls 4 [(0, .ref a_t), (1, .int p1), (2, .int p2), (3, .int p3)] := hl
  have hP : va_P (dC, dI) vwCl [(a_t, .inr (7, [.int v_t_thrown, .ref a_t_state, .ref a_t_kept, .ref a_t_stack, .int v_t_saved, .ref a_t_text, .int v_t_textLength, .int v_t_place, .int v_t_sign, .int v_t_readLetters, .int v_t_readLength, .int v_t_readNumber])), (a_t_state, .inl (cA, 255, .inl f_t_state)), (a_t_stack, .inl (cA, 1020, .inl f_t_stack))] s.heap := hP
  have hD : va_D A [(a_t, .inr (7, [.int v_t_thrown, .ref a_t_state, .ref a_t_kept, .ref a_t_stack, .int v_t_saved, .ref a_t_text, .int v_t_textLength, .int v_t_place, .int v_t_sign, .int v_t_readLetters, .int v_t_readLength, .int v_t_readNumber])), (a_t_state, .inl (cA, 255, .inl f_t_state)), (a_t_stack, .inl (cA, 1020, .inl f_t_stack))] := hD
  refine lv_aload_n hx hb dX8_add_0 rfl (lv_at hl 0 rfl) ?_
  refine lv_aload_n hx hb dX8_add_1 rfl (lv_at hl 0 rfl) ?_
  refine lv_iload_n hx hb dX8_add_2 rfl (lv_at hl 1 rfl) ?_
  refine lv_iload_n hx hb dX8_add_3 rfl (lv_at hl 2 rfl) ?_
  refine lv_iload_n hx hb dX8_add_4 rfl (lv_at hl 3 rfl) ?_
  obtain ⟨r5, e5, hm⟩ := bs hm
  try dsimp only at hm
  refine ro_callVe ⟨hx, hb, hml, hown, hts⟩ (kX8_whyNotAdded l dC dI cA a_t a_t_state a_t_kept a_t_stack a_t_text v_t_thrown v_t_saved v_t_textLength v_t_place v_t_sign v_t_readLetters v_t_readLength v_t_readNumber f_t_state p1 p2 p3 r5 e5) (cwV 3 hts gX8_add_X8_whyNotAdded rfl rfl rfl hdX8_whyNotAdded ⟨Nat.le_of_ble_eq_true rfl, Nat.le_of_ble_eq_true rfl⟩) (hP.sub [0, 1] rfl) hK rfl rfl rfl hl.1 rfl (Nat.le_of_ble_eq_true rfl) dX8_add_5 ⟨Nat.zero_le _, Nat.zero_le _⟩ ?_
  refine va_put (D := (dC, dI)) (ci := 7) (C := RX8) (T := TX8) (N := 12) (ty := .int) hx hb hts iX8_add_X8 tyX8 tyX8_ok nmX8 hown hK hP hD hS 0 rfl rfl 0 (by decide) (hts _ (List.mem_of_getElem? (i := 1) rfl)) (fun _ h9 => h9) rfl (by decide +kernel) rfl rfl (Nat.le_of_ble_eq_true rfl) dX8_add_8 (fun H locs hP hD hS => ?_)
  have hP : va_P (dC, dI) vwCl [(a_t, .inr (7, [.int r5, .ref a_t_state, .ref a_t_kept, .ref a_t_stack, .int v_t_saved, .ref a_t_text, .int v_t_textLength, .int v_t_place, .int v_t_sign, .int v_t_readLetters, .int v_t_readLength, .int v_t_readNumber])), (a_t_state, .inl (cA, 255, .inl f_t_state)), (a_t_stack, .inl (cA, 1020, .inl f_t_stack))] H := hP
  have hD : va_D A [(a_t, .inr (7, [.int r5, .ref a_t_state, .ref a_t_kept, .ref a_t_stack, .int v_t_saved, .ref a_t_text, .int v_t_textLength, .int v_t_place, .int v_t_sign, .int v_t_readLetters, .int v_t_readLength, .int v_t_readNumber])), (a_t_state, .inl (cA, 255, .inl f_t_state)), (a_t_stack, .inl (cA, 1020, .inl f_t_stack))] := hD
  refine lv_aload_n hx hb dX8_add_11 rfl (lv_at hl 0 rfl) ?_
  refine va_get (D := (dC, dI)) (ci := 7) (C := RX8) (T := TX8) (N := 12) hx hb hts iX8_add_X8 hown hK hP 0 rfl rfl 0 (by decide) (hts _ (List.mem_of_getElem? (i := 1) rfl)) (fun _ h9 => h9) rfl dX8_add_12 ?_
  refine lv_if_le (tgt := 20) hx hb dX8_add_15 (by decide) (fun c15 => ?_) (fun c15 => ?_)
  · rw [if_pos c15] at hm
    refine lv_aload_n hx hb dX8_add_20 rfl (lv_at hl 0 rfl) ?_
    obtain ⟨⟨v_t_saved_21, f_t_stack_21⟩, e21, hm⟩ := bs hm
    try dsimp only at hm
    refine mu_callVv (wr := []) ⟨hx, hb, hml, hown, hts⟩ (kX8_save l dC dI cA a_t a_t_state a_t_kept a_t_stack a_t_text r5 v_t_saved v_t_textLength v_t_place v_t_sign v_t_readLetters v_t_readLength v_t_readNumber f_t_state f_t_stack _ v_t_saved_21 f_t_stack_21 e21) (cwV 0 hts gX8_add_X8_save rfl rfl rfl hdX8_save ⟨Nat.le_of_ble_eq_true rfl, Nat.le_of_ble_eq_true rfl⟩) hP hD hS hA hK [0, 1, 2] [] rfl rfl rfl rfl (by decide) rfl rfl rfl hl.1 rfl (Nat.le_of_ble_eq_true rfl) dX8_add_21 ⟨Nat.zero_le _, Nat.zero_le _⟩ (fun H locs hP hD hS => ?_)
    have hP : va_P (dC, dI) vwCl [(a_t, .inr (7, [.int r5, .ref a_t_state, .ref a_t_kept, .ref a_t_stack, .int v_t_saved_21, .ref a_t_text, .int v_t_textLength, .int v_t_place, .int v_t_sign, .int v_t_readLetters, .int v_t_readLength, .int v_t_readNumber])), (a_t_state, .inl (cA, 255, .inl f_t_state)), (a_t_stack, .inl (cA, 1020, .inl f_t_stack_21))] H := hP
    have hD : va_D A [(a_t, .inr (7, [.int r5, .ref a_t_state, .ref a_t_kept, .ref a_t_stack, .int v_t_saved_21, .ref a_t_text, .int v_t_textLength, .int v_t_place, .int v_t_sign, .int v_t_readLetters, .int v_t_readLength, .int v_t_readNumber])), (a_t_state, .inl (cA, 255, .inl f_t_state)), (a_t_stack, .inl (cA, 1020, .inl f_t_stack_21))] := hD
    refine lv_aload_n hx hb dX8_add_24 rfl (lv_at hl 0 rfl) ?_
    refine lv_iload_n hx hb dX8_add_25 rfl (lv_at hl 1 rfl) ?_
    refine lv_iload_n hx hb dX8_add_26 rfl (lv_at hl 2 rfl) ?_
    refine sp_callSe ⟨hx, hb, hml, hown, hts⟩ (kX8_code l p1 p2) (va_cwS 2 hts gX8_add_X8_code rfl rfl rfl hdX8_code.2 ⟨Nat.le_of_ble_eq_true rfl, Nat.le_of_ble_eq_true rfl⟩) rfl hl.1 rfl (Nat.le_of_ble_eq_true rfl) dX8_add_27 ⟨Nat.zero_le _, Nat.zero_le _⟩ ?_
    refine lv_iload_n hx hb dX8_add_30 rfl (lv_at hl 3 rfl) ?_
    obtain ⟨⟨r31, f_t_state_31⟩, e31, hm⟩ := bs hm
    try dsimp only at hm
    refine mu_callVe (wr := [(a_t_stack, .inl (cA, 1020, .inl f_t_stack_21))]) ⟨hx, hb, hml, hown, hts⟩ (kX8_addName l dC dI cA a_t a_t_state a_t_kept a_t_stack a_t_text r5 v_t_saved_21 v_t_textLength v_t_place v_t_sign v_t_readLetters v_t_readLength v_t_readNumber f_t_state (mX8_code p1 p2) p3 _ r31 f_t_state_31 e31) (cwV 2 hts gX8_add_X8_addName rfl rfl rfl hdX8_addName ⟨Nat.le_of_ble_eq_true rfl, Nat.le_of_ble_eq_true rfl⟩) hP hD hS hA hK [0, 1] [2] rfl rfl rfl rfl (by decide) rfl rfl rfl hl.1 rfl (Nat.le_of_ble_eq_true rfl) dX8_add_31 ⟨Nat.zero_le _, Nat.zero_le _⟩ (fun H locs hP hD hS => ?_)
    have hP : va_P (dC, dI) vwCl [(a_t_stack, .inl (cA, 1020, .inl f_t_stack_21)), (a_t, .inr (7, [.int r5, .ref a_t_state, .ref a_t_kept, .ref a_t_stack, .int v_t_saved_21, .ref a_t_text, .int v_t_textLength, .int v_t_place, .int v_t_sign, .int v_t_readLetters, .int v_t_readLength, .int v_t_readNumber])), (a_t_state, .inl (cA, 255, .inl f_t_state_31))] H := hP
    have hD : va_D A [(a_t_stack, .inl (cA, 1020, .inl f_t_stack_21)), (a_t, .inr (7, [.int r5, .ref a_t_state, .ref a_t_kept, .ref a_t_stack, .int v_t_saved_21, .ref a_t_text, .int v_t_textLength, .int v_t_place, .int v_t_sign, .int v_t_readLetters, .int v_t_readLength, .int v_t_readNumber])), (a_t_state, .inl (cA, 255, .inl f_t_state_31))] := hD
    cases hm
    exact mu_iret hx hb hr rfl rfl hP hD hS hK [1, 2, 0] rfl (by decide) dX8_add_34 hlocks
  · rw [if_neg c15] at hm
    refine lv_iconst (v := 0) hx hb dX8_add_18 (by decide) ?_
    cases hm
    exact mu_iret hx hb hr rfl rfl hP hD hS hK [0, 1, 2] rfl (by decide) dX8_add_19 hlocks
def mX8_whyNotThere (f_t_state : Nat → Int32) (p1 : Int32) (p2 : Int32) : Option (Int32) :=
  (if (mX8_isPrefix p1 p2 1) = 0 then
    some 1
  else
    ((mX8_findName f_t_state (mX8_code p1 p2)).bind fun r19 =>
    some (if r19 = (-1) then (2 : Int32) else 0)))
abbrev rmX8_whyNotThere : Room := { frames := 3, cells := 0, slots := 0, locals := 66 }
abbrev wX8_whyNotThere (cA : ClassId) (a_t a_t_state a_t_kept a_t_stack a_t_text : Nat) (v_t_thrown v_t_saved v_t_textLength v_t_place v_t_sign v_t_readLetters v_t_readLength v_t_readNumber : Int32) (f_t_state : Nat → Int32) : va_W := [(a_t, .inr (7, [.int v_t_thrown, .ref a_t_state, .ref a_t_kept, .ref a_t_stack, .int v_t_saved, .ref a_t_text, .int v_t_textLength, .int v_t_place, .int v_t_sign, .int v_t_readLetters, .int v_t_readLength, .int v_t_readNumber])), (a_t_state, .inl (cA, 255, .inl f_t_state))]
theorem hdX8_whyNotThere : yX8_whyNotThere.cls = RX8 ∧ yX8_whyNotThere.cls ≠ "java/lang/invoke/MethodHandle" ∧ yX8_whyNotThere.cls ≠ "java/lang/invoke/VarHandle" ∧ (parseMethodDescriptor yX8_whyNotThere.desc).map (fun d => d.parameters.length) = some 2 := by decide +kernel
set_option maxHeartbeats 4000000 in
set_option maxRecDepth 100000 in
theorem kX8_whyNotThere (l : Launch) (dC : Nat → ClassId) (dI : Nat → Nat → Nat) (cA : ClassId) (a_t a_t_state a_t_kept a_t_stack a_t_text : Nat) (v_t_thrown v_t_saved v_t_textLength v_t_place v_t_sign v_t_readLetters v_t_readLength v_t_readNumber : Int32) (f_t_state : Nat → Int32) (p1 p2 r : Int32) (hm : (mX8_whyNotThere f_t_state p1 p2) = some r) : Met l yX8_whyNotThere wsX8_whyNotThere rmX8_whyNotThere (rpc (dC, dI) [(cA, .int)] (wX8_whyNotThere cA a_t a_t_state a_t_kept a_t_stack a_t_text v_t_thrown v_t_saved v_t_textLength v_t_place v_t_sign v_t_readLetters v_t_readLength v_t_readNumber f_t_state) [.ref a_t, .int p1, .int p2]) (vp_Si (fun x => x = r)) 0 0 (fun _ => False) := by
  unfold mX8_whyNotThere at hm
  refine ro_ofW (cc := cX8_whyNotThere) (maxL := 3) (ret := (some .int)) (own := RX8) (by decide) rfl rfl (Nat.le_of_ble_eq_true rfl) ?_
  intro p e s m args below meth c hx hb hr hts hown hlocks hml hP hK ls hl
  have hl : lv_has ls 3 [(0, .ref a_t), (1, .int p1), (2, .int p2)] := hl
  have hP : va_P (dC, dI) vwCl [(a_t, .inr (7, [.int v_t_thrown, .ref a_t_state, .ref a_t_kept, .ref a_t_stack, .int v_t_saved, .ref a_t_text, .int v_t_textLength, .int v_t_place, .int v_t_sign, .int v_t_readLetters, .int v_t_readLength, .int v_t_readNumber])), (a_t_state, .inl (cA, 255, .inl f_t_state))] s.heap := hP
  refine lv_iload_n hx hb dX8_whyNotThere_0 rfl (lv_at hl 1 rfl) ?_
  refine lv_iload_n hx hb dX8_whyNotThere_1 rfl (lv_at hl 2 rfl) ?_
  refine lv_iconst (v := 1) hx hb dX8_whyNotThere_2 (by decide) ?_
  refine sp_callSz ⟨hx, hb, hml, hown, hts⟩ (kX8_isPrefix l p1 p2 1) (va_cwS 3 hts gX8_whyNotThere_X8_isPrefix rfl rfl rfl hdX8_isPrefix.2 ⟨Nat.le_of_ble_eq_true rfl, Nat.le_of_ble_eq_true rfl⟩) rfl hl.1 rfl (Nat.le_of_ble_eq_true rfl) dX8_whyNotThere_3 ⟨Nat.zero_le _, Nat.zero_le _⟩ (fun hb3 => ?_)
  refine lv_if_ne (tgt := 13) hx hb dX8_whyNotThere_6 (by decide) (fun c6 => ?_) (fun c6 => ?_)
  · rw [if_neg c6] at hm
    refine lv_aload_n hx hb dX8_whyNotThere_13 rfl (lv_at hl 0 rfl) ?_
    refine lv_iload_n hx hb dX8_whyNotThere_14 rfl (lv_at hl 1 rfl) ?_
    refine lv_iload_n hx hb dX8_whyNotThere_15 rfl (lv_at hl 2 rfl) ?_
    refine sp_callSe ⟨hx, hb, hml, hown, hts⟩ (kX8_code l p1 p2) (va_cwS 2 hts gX8_whyNotThere_X8_code rfl rfl rfl hdX8_code.2 ⟨Nat.le_of_ble_eq_true rfl, Nat.le_of_ble_eq_true rfl⟩) rfl hl.1 rfl (Nat.le_of_ble_eq_true rfl) dX8_whyNotThere_16 ⟨Nat.zero_le _, Nat.zero_le _⟩ ?_
    obtain ⟨r19, e19, hm⟩ := bs hm
    try dsimp only at hm
    refine ro_callVe ⟨hx, hb, hml, hown, hts⟩ (kX8_findName l dC dI cA a_t a_t_state a_t_kept a_t_stack a_t_text v_t_thrown v_t_saved v_t_textLength v_t_place v_t_sign v_t_readLetters v_t_readLength v_t_readNumber f_t_state (mX8_code p1 p2) r19 e19) (cwV 1 hts gX8_whyNotThere_X8_findName rfl rfl rfl hdX8_findName ⟨Nat.le_of_ble_eq_true rfl, Nat.le_of_ble_eq_true rfl⟩) (hP.sub [0, 1] rfl) hK rfl rfl rfl hl.1 rfl (Nat.le_of_ble_eq_true rfl) dX8_whyNotThere_19 ⟨Nat.zero_le _, Nat.zero_le _⟩ ?_
    refine lv_iconst (v := (-1)) hx hb dX8_whyNotThere_22 (by decide) ?_
    refine lv_icmp_ne (tgt := 30) hx hb dX8_whyNotThere_23 (by decide) (fun c23 => ?_) (fun c23 => ?_)
    · try simp only [if_neg c23] at hm
      refine lv_iconst (v := 0) hx hb dX8_whyNotThere_30 (by decide) ?_
      cases hm
      exact ro_iret hx hb hr rfl rfl dX8_whyNotThere_31 hlocks
    · try simp only [if_pos c23] at hm
      refine lv_iconst (v := 2) hx hb dX8_whyNotThere_26 (by decide) ?_
      refine lv_goto (tgt := 31) hx hb dX8_whyNotThere_27 (by decide) ?_
      cases hm
      exact ro_iret hx hb hr rfl rfl dX8_whyNotThere_31 hlocks
  · rw [if_pos c6] at hm
    refine lv_iconst (v := 1) hx hb dX8_whyNotThere_9 (by decide) ?_
    refine lv_goto (tgt := 31) hx hb dX8_whyNotThere_10 (by decide) ?_
    cases hm
    exact ro_iret hx hb hr rfl rfl dX8_whyNotThere_31 hlocks
def mX8_removeName_L6  : Nat → (Int32) → (Nat → Int32) → Option (Int32 × (Nat → Int32))
  | 0, _, _ => none
  | n + 1, x2_6, f_t_state_L6 =>
    (if (f_t_state_L6 1) ≤ (x2_6 + 1) then
      some (x2_6, f_t_state_L6)
    else
      ((mX8_name f_t_state_L6 (x2_6 + 1)).bind fun r30 =>
      ((wrA 255 f_t_state_L6 (7 + x2_6) r30).bind fun f_t_state_33 =>
      ((rdA 255 f_t_state_33 ((31 + x2_6) + 1)).bind fun r52 =>
      ((wrA 255 f_t_state_33 (31 + x2_6) r52).bind fun f_t_state_53 =>
      mX8_removeName_L6 n (x2_6 + 1) f_t_state_53)))))
def mX8_removeName_L78  : Nat → (Int32) → (Int32) → (Nat → Int32) → Option (Int32 × Int32 × (Nat → Int32))
  | 0, _, _, _ => none
  | n + 1, x2_78, x3_78, f_t_state_L78 =>
    (if x3_78 ≤ 0 then
      some (x2_78, x3_78, f_t_state_L78)
    else
      ((mX8_prefixOf f_t_state_L78 x3_78).bind fun r85 =>
      ((mX8_findName f_t_state_L78 r85).bind fun r88 =>
      (if r88 = (-1) then
        ((mX8_childrenOf f_t_state_L78 x3_78).bind fun r97 =>
        (if r97 = 0 then
          ((mX8_parentOf f_t_state_L78 x3_78).bind fun r105 =>
          ((mX8_dropHouse f_t_state_L78 x3_78).bind fun f_t_state_112 =>
          mX8_removeName_L78 n (x2_78 + 1) r105 f_t_state_112))
        else
          some (x2_78, x3_78, f_t_state_L78)))
      else
        some (x2_78, x3_78, f_t_state_L78)))))
def mX8_removeName (f_t_state : Nat → Int32) (p1 : Int32) : Option (Int32 × (Nat → Int32)) :=
  ((mX8_findName f_t_state p1).bind fun r2 =>
  ((mX8_removeName_L6 FU r2 f_t_state).bind fun (y2_6, f_t_state_E6) =>
  ((mX8_findHouse (upd f_t_state_E6 1 ((f_t_state_E6 1) - 1)) p1).bind fun r74 =>
  ((mX8_removeName_L78 FU 0 r74 (upd f_t_state_E6 1 ((f_t_state_E6 1) - 1))).bind fun (y2_78, y3_78, f_t_state_E78) =>
  some (y2_78, (upd f_t_state_E78 6 ((f_t_state_E78 6) + y2_78)))))))
abbrev rmX8_removeName : Room := { frames := 6, cells := 0, slots := 0, locals := 127 }
abbrev wX8_removeName (cA : ClassId) (a_t a_t_state a_t_kept a_t_stack a_t_text : Nat) (v_t_thrown v_t_saved v_t_textLength v_t_place v_t_sign v_t_readLetters v_t_readLength v_t_readNumber : Int32) (f_t_state : Nat → Int32) : va_W := [(a_t, .inr (7, [.int v_t_thrown, .ref a_t_state, .ref a_t_kept, .ref a_t_stack, .int v_t_saved, .ref a_t_text, .int v_t_textLength, .int v_t_place, .int v_t_sign, .int v_t_readLetters, .int v_t_readLength, .int v_t_readNumber])), (a_t_state, .inl (cA, 255, .inl f_t_state))]
theorem iX8_removeName_X8 : ∀ w ∈ wsX80, w ∈ wsX8_removeName := (fun _ h => List.mem_cons_of_mem _ (List.mem_append_right _ h))
theorem hdX8_removeName : yX8_removeName.cls = RX8 ∧ yX8_removeName.cls ≠ "java/lang/invoke/MethodHandle" ∧ yX8_removeName.cls ≠ "java/lang/invoke/VarHandle" ∧ (parseMethodDescriptor yX8_removeName.desc).map (fun d => d.parameters.length) = some 1 := by decide +kernel
set_option maxHeartbeats 4000000 in
set_option maxRecDepth 100000 in
theorem wX8_removeName_L6 {p : Program} {l : Launch} {e : Env} {s : State} {m : MethodId} {args : Array Value} {below : List Frame} {meth : Method} {c : Code} {Q : State → Prop} {A : Nat → Prop} (dC : Nat → ClassId) (dI : Nat → Nat → Nat) (cA : ClassId) (a_t a_t_state a_t_kept a_t_stack a_t_text : Nat) (v_t_thrown v_t_saved v_t_textLength v_t_place v_t_sign v_t_readLetters v_t_readLength v_t_readNumber p1 x1_6 y2_6 : Int32) (f_t_state_E6 : Nat → Int32) (hx : p.tables.exec = Jvm.exec) (hb : c.code = cX8_removeName) (hml : c.maxLocals = 5) (hown : s.vm.findClass RX8 = some m.cls) (hts : ∀ w ∈ wsX8_removeName, w.before args s = true) (hA : ∀ q, s.heap.size ≤ q → A q) (hK : va_K (dC, dI) vwCl [(cA, .int)] s)
    (kk0 : ∀ (H : Heap) (locs : List Loc), va_P (dC, dI) vwCl [(a_t, .inr (7, [.int v_t_thrown, .ref a_t_state, .ref a_t_kept, .ref a_t_stack, .int v_t_saved, .ref a_t_text, .int v_t_textLength, .int v_t_place, .int v_t_sign, .int v_t_readLetters, .int v_t_readLength, .int v_t_readNumber])), (a_t_state, .inl (cA, 255, .inl f_t_state_E6))] H → va_D A [(a_t, .inr (7, [.int v_t_thrown, .ref a_t_state, .ref a_t_kept, .ref a_t_stack, .int v_t_saved, .ref a_t_text, .int v_t_textLength, .int v_t_place, .int v_t_sign, .int v_t_readLetters, .int v_t_readLength, .int v_t_readNumber])), (a_t_state, .inl (cA, 255, .inl f_t_state_E6))] → va_S A s.heap H locs → ∀ ls : Array Slot, lv_has ls 5 [(0, .ref a_t), (1, .int x1_6), (2, .int y2_6)] → W p l e (headSpec wsX8_removeName rmX8_removeName).room s m args below meth c H locs 0 0 Q (F0 m 60 ls [])) :
    ∀ (n : Nat) (x2_6 : Int32) (f_t_state_L6 : Nat → Int32), mX8_removeName_L6  n x2_6 f_t_state_L6 = some (y2_6, f_t_state_E6) → ∀ (H : Heap) (locs : List Loc), va_P (dC, dI) vwCl [(a_t, .inr (7, [.int v_t_thrown, .ref a_t_state, .ref a_t_kept, .ref a_t_stack, .int v_t_saved, .ref a_t_text, .int v_t_textLength, .int v_t_place, .int v_t_sign, .int v_t_readLetters, .int v_t_readLength, .int v_t_readNumber])), (a_t_state, .inl (cA, 255, .inl f_t_state_L6))] H → va_D A [(a_t, .inr (7, [.int v_t_thrown, .ref a_t_state, .ref a_t_kept, .ref a_t_stack, .int v_t_saved, .ref a_t_text, .int v_t_textLength, .int v_t_place, .int v_t_sign, .int v_t_readLetters, .int v_t_readLength, .int v_t_readNumber])), (a_t_state, .inl (cA, 255, .inl f_t_state_L6))] → va_S A s.heap H locs → ∀ ls : Array Slot, lv_has ls 5 [(0, .ref a_t), (1, .int x1_6), (2, .int x2_6)] → W p l e (headSpec wsX8_removeName rmX8_removeName).room s m args below meth c H locs 0 0 Q (F0 m 6 ls []) := by
  intro n
  induction n with
  | zero =>
    intro x2_6 f_t_state_L6 hm
    cases hm
  | succ n ih =>
    intro x2_6 f_t_state_L6 hm H locs hP hD hS ls hl
    rw [mX8_removeName_L6] at hm
    refine lv_iload_n hx hb dX8_removeName_6 rfl (lv_at hl 2 rfl) ?_
    refine lv_iconst (v := 1) hx hb dX8_removeName_7 (by decide) ?_
    refine lv_iadd hx hb dX8_removeName_8 ?_
    refine lv_aload_n hx hb dX8_removeName_9 rfl (lv_at hl 0 rfl) ?_
    refine va_get (D := (dC, dI)) (ci := 7) (C := RX8) (T := TX8) (N := 12) hx hb hts iX8_removeName_X8 hown hK hP 0 rfl rfl 1 (by decide) (hts _ (List.mem_of_getElem? (i := 1) rfl)) (fun _ h9 => h9) rfl dX8_removeName_10 ?_
    refine lv_iconst (v := 1) hx hb dX8_removeName_13 (by decide) ?_
    refine xa_ldK hx hb hK hP 1 0 rfl rfl 1 rfl (by decide) (by decide) dX8_removeName_14 ?_
    refine lv_icmp_ge (tgt := 60) hx hb dX8_removeName_15 (by decide) (fun c15 => ?_) (fun c15 => ?_)
    · rw [if_pos c15] at hm
      cases hm
      exact kk0 _ _ (hP.sub [0, 1] rfl) (hD.sub [0, 1] (by decide) rfl) hS _ (lv_sub hl [0, 1, 2] rfl)
    · rw [if_neg c15] at hm
      refine lv_aload_n hx hb dX8_removeName_18 rfl (lv_at hl 0 rfl) ?_
      refine va_get (D := (dC, dI)) (ci := 7) (C := RX8) (T := TX8) (N := 12) hx hb hts iX8_removeName_X8 hown hK hP 0 rfl rfl 1 (by decide) (hts _ (List.mem_of_getElem? (i := 1) rfl)) (fun _ h9 => h9) rfl dX8_removeName_19 ?_
      refine lv_bipush (v := 7) hx hb dX8_removeName_22 (by decide) ?_
      refine lv_iload_n hx hb dX8_removeName_24 rfl (lv_at hl 2 rfl) ?_
      refine lv_iadd hx hb dX8_removeName_25 ?_
      refine lv_aload_n hx hb dX8_removeName_26 rfl (lv_at hl 0 rfl) ?_
      refine lv_iload_n hx hb dX8_removeName_27 rfl (lv_at hl 2 rfl) ?_
      refine lv_iconst (v := 1) hx hb dX8_removeName_28 (by decide) ?_
      refine lv_iadd hx hb dX8_removeName_29 ?_
      obtain ⟨r30, e30, hm⟩ := bs hm
      try dsimp only at hm
      refine ro_callVe ⟨hx, hb, hml, hown, hts⟩ (kX8_name l dC dI cA a_t a_t_state a_t_kept a_t_stack a_t_text v_t_thrown v_t_saved v_t_textLength v_t_place v_t_sign v_t_readLetters v_t_readLength v_t_readNumber f_t_state_L6 (x2_6 + 1) r30 e30) (cwV 1 hts gX8_removeName_X8_name rfl rfl rfl hdX8_name ⟨Nat.le_of_ble_eq_true rfl, Nat.le_of_ble_eq_true rfl⟩) (hP.sub [0, 1] rfl) hK rfl rfl rfl hl.1 rfl (Nat.le_of_ble_eq_true rfl) dX8_removeName_30 ⟨Nat.zero_le _, Nat.zero_le _⟩ ?_
      obtain ⟨f_t_state_33, e33, hm⟩ := bs hm
      try dsimp only at hm
      refine xa_stO hx hb hK hP hD hS 1 0 rfl rfl e33 dX8_removeName_33 (fun H locs hP hD hS => ?_)
      have hP : va_P (dC, dI) vwCl [(a_t, .inr (7, [.int v_t_thrown, .ref a_t_state, .ref a_t_kept, .ref a_t_stack, .int v_t_saved, .ref a_t_text, .int v_t_textLength, .int v_t_place, .int v_t_sign, .int v_t_readLetters, .int v_t_readLength, .int v_t_readNumber])), (a_t_state, .inl (cA, 255, .inl f_t_state_33))] H := hP
      have hD : va_D A [(a_t, .inr (7, [.int v_t_thrown, .ref a_t_state, .ref a_t_kept, .ref a_t_stack, .int v_t_saved, .ref a_t_text, .int v_t_textLength, .int v_t_place, .int v_t_sign, .int v_t_readLetters, .int v_t_readLength, .int v_t_readNumber])), (a_t_state, .inl (cA, 255, .inl f_t_state_33))] := hD
      refine lv_aload_n hx hb dX8_removeName_34 rfl (lv_at hl 0 rfl) ?_
      refine va_get (D := (dC, dI)) (ci := 7) (C := RX8) (T := TX8) (N := 12) hx hb hts iX8_removeName_X8 hown hK hP 0 rfl rfl 1 (by decide) (hts _ (List.mem_of_getElem? (i := 1) rfl)) (fun _ h9 => h9) rfl dX8_removeName_35 ?_
      refine lv_bipush (v := 31) hx hb dX8_removeName_38 (by decide) ?_
      refine lv_iload_n hx hb dX8_removeName_40 rfl (lv_at hl 2 rfl) ?_
      refine lv_iadd hx hb dX8_removeName_41 ?_
      refine lv_aload_n hx hb dX8_removeName_42 rfl (lv_at hl 0 rfl) ?_
      refine va_get (D := (dC, dI)) (ci := 7) (C := RX8) (T := TX8) (N := 12) hx hb hts iX8_removeName_X8 hown hK hP 0 rfl rfl 1 (by decide) (hts _ (List.mem_of_getElem? (i := 1) rfl)) (fun _ h9 => h9) rfl dX8_removeName_43 ?_
      refine lv_bipush (v := 31) hx hb dX8_removeName_46 (by decide) ?_
      refine lv_iload_n hx hb dX8_removeName_48 rfl (lv_at hl 2 rfl) ?_
      refine lv_iadd hx hb dX8_removeName_49 ?_
      refine lv_iconst (v := 1) hx hb dX8_removeName_50 (by decide) ?_
      refine lv_iadd hx hb dX8_removeName_51 ?_
      obtain ⟨r52, e52, hm⟩ := bs hm
      try dsimp only at hm
      refine xa_ldO hx hb hK hP 1 0 rfl rfl e52 dX8_removeName_52 ?_
      obtain ⟨f_t_state_53, e53, hm⟩ := bs hm
      try dsimp only at hm
      refine xa_stO hx hb hK hP hD hS 1 0 rfl rfl e53 dX8_removeName_53 (fun H locs hP hD hS => ?_)
      have hP : va_P (dC, dI) vwCl [(a_t, .inr (7, [.int v_t_thrown, .ref a_t_state, .ref a_t_kept, .ref a_t_stack, .int v_t_saved, .ref a_t_text, .int v_t_textLength, .int v_t_place, .int v_t_sign, .int v_t_readLetters, .int v_t_readLength, .int v_t_readNumber])), (a_t_state, .inl (cA, 255, .inl f_t_state_53))] H := hP
      have hD : va_D A [(a_t, .inr (7, [.int v_t_thrown, .ref a_t_state, .ref a_t_kept, .ref a_t_stack, .int v_t_saved, .ref a_t_text, .int v_t_textLength, .int v_t_place, .int v_t_sign, .int v_t_readLetters, .int v_t_readLength, .int v_t_readNumber])), (a_t_state, .inl (cA, 255, .inl f_t_state_53))] := hD
      refine lv_iinc (v := (x2_6 + 1)) (lv' := [(2, .int (x2_6 + 1)), (0, .ref a_t), (1, .int x1_6)]) hx hb dX8_removeName_54 hl (k := 2) rfl rfl (by decide) rfl (fun ls hl => ?_)
      refine lv_goto (tgt := 6) hx hb dX8_removeName_57 (by decide) ?_
      exact ih _ _ hm _ _ (hP.sub [0, 1] rfl) (hD.sub [0, 1] (by decide) rfl) hS _ (lv_sub hl [1, 2, 0] rfl)
set_option maxHeartbeats 4000000 in
set_option maxRecDepth 100000 in
theorem wX8_removeName_L78 {p : Program} {l : Launch} {e : Env} {s : State} {m : MethodId} {args : Array Value} {below : List Frame} {meth : Method} {c : Code} {Q : State → Prop} {A : Nat → Prop} (dC : Nat → ClassId) (dI : Nat → Nat → Nat) (cA : ClassId) (a_t a_t_state a_t_kept a_t_stack a_t_text : Nat) (v_t_thrown v_t_saved v_t_textLength v_t_place v_t_sign v_t_readLetters v_t_readLength v_t_readNumber p1 y2_78 y3_78 : Int32) (f_t_state_E78 : Nat → Int32) (hx : p.tables.exec = Jvm.exec) (hb : c.code = cX8_removeName) (hml : c.maxLocals = 5) (hown : s.vm.findClass RX8 = some m.cls) (hts : ∀ w ∈ wsX8_removeName, w.before args s = true) (hA : ∀ q, s.heap.size ≤ q → A q) (hK : va_K (dC, dI) vwCl [(cA, .int)] s)
    (kk0 : ∀ (H : Heap) (locs : List Loc), va_P (dC, dI) vwCl [(a_t, .inr (7, [.int v_t_thrown, .ref a_t_state, .ref a_t_kept, .ref a_t_stack, .int v_t_saved, .ref a_t_text, .int v_t_textLength, .int v_t_place, .int v_t_sign, .int v_t_readLetters, .int v_t_readLength, .int v_t_readNumber])), (a_t_state, .inl (cA, 255, .inl f_t_state_E78))] H → va_D A [(a_t, .inr (7, [.int v_t_thrown, .ref a_t_state, .ref a_t_kept, .ref a_t_stack, .int v_t_saved, .ref a_t_text, .int v_t_textLength, .int v_t_place, .int v_t_sign, .int v_t_readLetters, .int v_t_readLength, .int v_t_readNumber])), (a_t_state, .inl (cA, 255, .inl f_t_state_E78))] → va_S A s.heap H locs → ∀ ls : Array Slot, lv_has ls 5 [(0, .ref a_t), (2, .int y2_78), (3, .int y3_78)] → W p l e (headSpec wsX8_removeName rmX8_removeName).room s m args below meth c H locs 0 0 Q (F0 m 124 ls [])) :
    ∀ (n : Nat) (x2_78 x3_78 : Int32) (f_t_state_L78 : Nat → Int32), mX8_removeName_L78  n x2_78 x3_78 f_t_state_L78 = some (y2_78, y3_78, f_t_state_E78) → ∀ (H : Heap) (locs : List Loc), va_P (dC, dI) vwCl [(a_t, .inr (7, [.int v_t_thrown, .ref a_t_state, .ref a_t_kept, .ref a_t_stack, .int v_t_saved, .ref a_t_text, .int v_t_textLength, .int v_t_place, .int v_t_sign, .int v_t_readLetters, .int v_t_readLength, .int v_t_readNumber])), (a_t_state, .inl (cA, 255, .inl f_t_state_L78))] H → va_D A [(a_t, .inr (7, [.int v_t_thrown, .ref a_t_state, .ref a_t_kept, .ref a_t_stack, .int v_t_saved, .ref a_t_text, .int v_t_textLength, .int v_t_place, .int v_t_sign, .int v_t_readLetters, .int v_t_readLength, .int v_t_readNumber])), (a_t_state, .inl (cA, 255, .inl f_t_state_L78))] → va_S A s.heap H locs → ∀ ls : Array Slot, lv_has ls 5 [(0, .ref a_t), (2, .int x2_78), (3, .int x3_78)] → W p l e (headSpec wsX8_removeName rmX8_removeName).room s m args below meth c H locs 0 0 Q (F0 m 78 ls []) := by
  intro n
  induction n with
  | zero =>
    intro x2_78 x3_78 f_t_state_L78 hm
    cases hm
  | succ n ih =>
    intro x2_78 x3_78 f_t_state_L78 hm H locs hP hD hS ls hl
    rw [mX8_removeName_L78] at hm
    refine lv_iload_n hx hb dX8_removeName_78 rfl (lv_at hl 2 rfl) ?_
    refine lv_if_le (tgt := 124) hx hb dX8_removeName_79 (by decide) (fun c79 => ?_) (fun c79 => ?_)
    · rw [if_pos c79] at hm
      cases hm
      exact kk0 _ _ (hP.sub [0, 1] rfl) (hD.sub [0, 1] (by decide) rfl) hS _ (lv_sub hl [0, 1, 2] rfl)
    · rw [if_neg c79] at hm
      refine lv_aload_n hx hb dX8_removeName_82 rfl (lv_at hl 0 rfl) ?_
      refine lv_aload_n hx hb dX8_removeName_83 rfl (lv_at hl 0 rfl) ?_
      refine lv_iload_n hx hb dX8_removeName_84 rfl (lv_at hl 2 rfl) ?_
      obtain ⟨r85, e85, hm⟩ := bs hm
      try dsimp only at hm
      refine ro_callVe ⟨hx, hb, hml, hown, hts⟩ (kX8_prefixOf l dC dI cA a_t a_t_state a_t_kept a_t_stack a_t_text v_t_thrown v_t_saved v_t_textLength v_t_place v_t_sign v_t_readLetters v_t_readLength v_t_readNumber f_t_state_L78 x3_78 r85 e85) (cwV 1 hts gX8_removeName_X8_prefixOf rfl rfl rfl hdX8_prefixOf ⟨Nat.le_of_ble_eq_true rfl, Nat.le_of_ble_eq_true rfl⟩) (hP.sub [0, 1] rfl) hK rfl rfl rfl hl.1 rfl (Nat.le_of_ble_eq_true rfl) dX8_removeName_85 ⟨Nat.zero_le _, Nat.zero_le _⟩ ?_
      obtain ⟨r88, e88, hm⟩ := bs hm
      try dsimp only at hm
      refine ro_callVe ⟨hx, hb, hml, hown, hts⟩ (kX8_findName l dC dI cA a_t a_t_state a_t_kept a_t_stack a_t_text v_t_thrown v_t_saved v_t_textLength v_t_place v_t_sign v_t_readLetters v_t_readLength v_t_readNumber f_t_state_L78 r85 r88 e88) (cwV 1 hts gX8_removeName_X8_findName rfl rfl rfl hdX8_findName ⟨Nat.le_of_ble_eq_true rfl, Nat.le_of_ble_eq_true rfl⟩) (hP.sub [0, 1] rfl) hK rfl rfl rfl hl.1 rfl (Nat.le_of_ble_eq_true rfl) dX8_removeName_88 ⟨Nat.zero_le _, Nat.zero_le _⟩ ?_
      refine lv_iconst (v := (-1)) hx hb dX8_removeName_91 (by decide) ?_
      refine lv_icmp_ne (tgt := 124) hx hb dX8_removeName_92 (by decide) (fun c92 => ?_) (fun c92 => ?_)
      · rw [if_neg c92] at hm
        cases hm
        exact kk0 _ _ (hP.sub [0, 1] rfl) (hD.sub [0, 1] (by decide) rfl) hS _ (lv_sub hl [0, 1, 2] rfl)
      · rw [if_pos c92] at hm
        refine lv_aload_n hx hb dX8_removeName_95 rfl (lv_at hl 0 rfl) ?_
        refine lv_iload_n hx hb dX8_removeName_96 rfl (lv_at hl 2 rfl) ?_
        obtain ⟨r97, e97, hm⟩ := bs hm
        try dsimp only at hm
        refine ro_callVe ⟨hx, hb, hml, hown, hts⟩ (kX8_childrenOf l dC dI cA a_t a_t_state a_t_kept a_t_stack a_t_text v_t_thrown v_t_saved v_t_textLength v_t_place v_t_sign v_t_readLetters v_t_readLength v_t_readNumber f_t_state_L78 x3_78 r97 e97) (cwV 1 hts gX8_removeName_X8_childrenOf rfl rfl rfl hdX8_childrenOf ⟨Nat.le_of_ble_eq_true rfl, Nat.le_of_ble_eq_true rfl⟩) (hP.sub [0, 1] rfl) hK rfl rfl rfl hl.1 rfl (Nat.le_of_ble_eq_true rfl) dX8_removeName_97 ⟨Nat.zero_le _, Nat.zero_le _⟩ ?_
        refine lv_if_ne (tgt := 124) hx hb dX8_removeName_100 (by decide) (fun c100 => ?_) (fun c100 => ?_)
        · rw [if_neg c100] at hm
          cases hm
          exact kk0 _ _ (hP.sub [0, 1] rfl) (hD.sub [0, 1] (by decide) rfl) hS _ (lv_sub hl [0, 1, 2] rfl)
        · rw [if_pos c100] at hm
          refine lv_aload_n hx hb dX8_removeName_103 rfl (lv_at hl 0 rfl) ?_
          refine lv_iload_n hx hb dX8_removeName_104 rfl (lv_at hl 2 rfl) ?_
          obtain ⟨r105, e105, hm⟩ := bs hm
          try dsimp only at hm
          refine ro_callVe ⟨hx, hb, hml, hown, hts⟩ (kX8_parentOf l dC dI cA a_t a_t_state a_t_kept a_t_stack a_t_text v_t_thrown v_t_saved v_t_textLength v_t_place v_t_sign v_t_readLetters v_t_readLength v_t_readNumber f_t_state_L78 x3_78 r105 e105) (cwV 1 hts gX8_removeName_X8_parentOf rfl rfl rfl hdX8_parentOf ⟨Nat.le_of_ble_eq_true rfl, Nat.le_of_ble_eq_true rfl⟩) (hP.sub [0, 1] rfl) hK rfl rfl rfl hl.1 rfl (Nat.le_of_ble_eq_true rfl) dX8_removeName_105 ⟨Nat.zero_le _, Nat.zero_le _⟩ ?_
          refine lv_istore (lv' := [(4, .int r105), (0, .ref a_t), (2, .int x2_78), (3, .int x3_78)]) hx hb dX8_removeName_108 hl (by decide) rfl (fun ls hl => ?_)
          refine lv_aload_n hx hb dX8_removeName_110 rfl (lv_at hl 1 rfl) ?_
          refine lv_iload_n hx hb dX8_removeName_111 rfl (lv_at hl 3 rfl) ?_
          obtain ⟨f_t_state_112, e112, hm⟩ := bs hm
          try dsimp only at hm
          refine mu_callVv (wr := []) ⟨hx, hb, hml, hown, hts⟩ (kX8_dropHouse l dC dI cA a_t a_t_state a_t_kept a_t_stack a_t_text v_t_thrown v_t_saved v_t_textLength v_t_place v_t_sign v_t_readLetters v_t_readLength v_t_readNumber f_t_state_L78 x3_78 _ f_t_state_112 e112) (cwV 1 hts gX8_removeName_X8_dropHouse rfl rfl rfl hdX8_dropHouse ⟨Nat.le_of_ble_eq_true rfl, Nat.le_of_ble_eq_true rfl⟩) hP hD hS hA hK [0, 1] [] rfl rfl rfl rfl (by decide) rfl rfl rfl hl.1 rfl (Nat.le_of_ble_eq_true rfl) dX8_removeName_112 ⟨Nat.zero_le _, Nat.zero_le _⟩ (fun H locs hP hD hS => ?_)
          have hP : va_P (dC, dI) vwCl [(a_t, .inr (7, [.int v_t_thrown, .ref a_t_state, .ref a_t_kept, .ref a_t_stack, .int v_t_saved, .ref a_t_text, .int v_t_textLength, .int v_t_place, .int v_t_sign, .int v_t_readLetters, .int v_t_readLength, .int v_t_readNumber])), (a_t_state, .inl (cA, 255, .inl f_t_state_112))] H := hP
          have hD : va_D A [(a_t, .inr (7, [.int v_t_thrown, .ref a_t_state, .ref a_t_kept, .ref a_t_stack, .int v_t_saved, .ref a_t_text, .int v_t_textLength, .int v_t_place, .int v_t_sign, .int v_t_readLetters, .int v_t_readLength, .int v_t_readNumber])), (a_t_state, .inl (cA, 255, .inl f_t_state_112))] := hD
          refine lv_iinc (v := (x2_78 + 1)) (lv' := [(2, .int (x2_78 + 1)), (4, .int r105), (0, .ref a_t), (3, .int x3_78)]) hx hb dX8_removeName_115 hl (k := 2) rfl rfl (by decide) rfl (fun ls hl => ?_)
          refine lv_iload hx hb dX8_removeName_118 (lv_at hl 1 rfl) ?_
          refine lv_istore_n (lv' := [(3, .int r105), (2, .int (x2_78 + 1)), (4, .int r105), (0, .ref a_t)]) hx hb dX8_removeName_120 rfl hl (by decide) rfl (fun ls hl => ?_)
          refine lv_goto (tgt := 78) hx hb dX8_removeName_121 (by decide) ?_
          exact ih _ _ _ hm _ _ (hP.sub [0, 1] rfl) (hD.sub [0, 1] (by decide) rfl) hS _ (lv_sub hl [3, 1, 0] rfl)
set_option maxHeartbeats 4000000 in
set_option maxRecDepth 100000 in
theorem kX8_removeName (l : Launch) (dC : Nat → ClassId) (dI : Nat → Nat → Nat) (cA : ClassId) (a_t a_t_state a_t_kept a_t_stack a_t_text : Nat) (v_t_thrown v_t_saved v_t_textLength v_t_place v_t_sign v_t_readLetters v_t_readLength v_t_readNumber : Int32) (f_t_state : Nat → Int32) (p1 : Int32) (sz : Nat) (r : Int32) (o_f_t_state : Nat → Int32) (hm : (mX8_removeName f_t_state p1) = some (r, o_f_t_state)) : Met l yX8_removeName wsX8_removeName rmX8_removeName (mpc (dC, dI) [(cA, .int)] (wX8_removeName cA a_t a_t_state a_t_kept a_t_stack a_t_text v_t_thrown v_t_saved v_t_textLength v_t_place v_t_sign v_t_readLetters v_t_readLength v_t_readNumber f_t_state) [.ref a_t, .int p1] sz) (mqi (dC, dI) [(cA, .int)] (va_A (wX8_removeName cA a_t a_t_state a_t_kept a_t_stack a_t_text v_t_thrown v_t_saved v_t_textLength v_t_place v_t_sign v_t_readLetters v_t_readLength v_t_readNumber f_t_state) sz) (wX8_removeName cA a_t a_t_state a_t_kept a_t_stack a_t_text v_t_thrown v_t_saved v_t_textLength v_t_place v_t_sign v_t_readLetters v_t_readLength v_t_readNumber o_f_t_state) (fun x => x = r)) 0 0 (va_A (wX8_removeName cA a_t a_t_state a_t_kept a_t_stack a_t_text v_t_thrown v_t_saved v_t_textLength v_t_place v_t_sign v_t_readLetters v_t_readLength v_t_readNumber f_t_state) sz) := by
  unfold mX8_removeName at hm
  refine mu_ofW (Qc := fun A => mqi (dC, dI) [(cA, .int)] A (wX8_removeName cA a_t a_t_state a_t_kept a_t_stack a_t_text v_t_thrown v_t_saved v_t_textLength v_t_place v_t_sign v_t_readLetters v_t_readLength v_t_readNumber o_f_t_state) (fun x => x = r)) (cc := cX8_removeName) (maxL := 5) (ret := (some .int)) (own := RX8) (by decide) rfl rfl (Nat.le_of_ble_eq_true rfl) ?_
  intro p e s m args below meth c hx hb hr hts hown hlocks hml hin A hA hP hD hS hK ls hl
  have hl : lv_has ls 5 [(0, .ref a_t), (1, .int p1)] := hl
  have hP : va_P (dC, dI) vwCl [(a_t, .inr (7, [.int v_t_thrown, .ref a_t_state, .ref a_t_kept, .ref a_t_stack, .int v_t_saved, .ref a_t_text, .int v_t_textLength, .int v_t_place, .int v_t_sign, .int v_t_readLetters, .int v_t_readLength, .int v_t_readNumber])), (a_t_state, .inl (cA, 255, .inl f_t_state))] s.heap := hP
  have hD : va_D A [(a_t, .inr (7, [.int v_t_thrown, .ref a_t_state, .ref a_t_kept, .ref a_t_stack, .int v_t_saved, .ref a_t_text, .int v_t_textLength, .int v_t_place, .int v_t_sign, .int v_t_readLetters, .int v_t_readLength, .int v_t_readNumber])), (a_t_state, .inl (cA, 255, .inl f_t_state))] := hD
  refine lv_aload_n hx hb dX8_removeName_0 rfl (lv_at hl 0 rfl) ?_
  refine lv_iload_n hx hb dX8_removeName_1 rfl (lv_at hl 1 rfl) ?_
  obtain ⟨r2, e2, hm⟩ := bs hm
  try dsimp only at hm
  refine ro_callVe ⟨hx, hb, hml, hown, hts⟩ (kX8_findName l dC dI cA a_t a_t_state a_t_kept a_t_stack a_t_text v_t_thrown v_t_saved v_t_textLength v_t_place v_t_sign v_t_readLetters v_t_readLength v_t_readNumber f_t_state p1 r2 e2) (cwV 1 hts gX8_removeName_X8_findName rfl rfl rfl hdX8_findName ⟨Nat.le_of_ble_eq_true rfl, Nat.le_of_ble_eq_true rfl⟩) (hP.sub [0, 1] rfl) hK rfl rfl rfl hl.1 rfl (Nat.le_of_ble_eq_true rfl) dX8_removeName_2 ⟨Nat.zero_le _, Nat.zero_le _⟩ ?_
  refine lv_istore_n (lv' := [(2, .int r2), (0, .ref a_t), (1, .int p1)]) hx hb dX8_removeName_5 rfl hl (by decide) rfl (fun ls hl => ?_)
  obtain ⟨⟨y2_6, f_t_state_E6⟩, e6, hm⟩ := bs hm
  try dsimp only at hm
  refine wX8_removeName_L6 dC dI cA a_t a_t_state a_t_kept a_t_stack a_t_text v_t_thrown v_t_saved v_t_textLength v_t_place v_t_sign v_t_readLetters v_t_readLength v_t_readNumber p1 p1 y2_6 f_t_state_E6 hx hb hml hown hts hA hK ?_ FU _ _ e6 _ _ (hP.sub [0, 1] rfl) (hD.sub [0, 1] (by decide) rfl) hS _ (lv_sub hl [1, 2, 0] rfl)
  · intro H locs hP hD hS ls hl
    refine lv_aload_n hx hb dX8_removeName_60 rfl (lv_at hl 0 rfl) ?_
    refine va_get (D := (dC, dI)) (ci := 7) (C := RX8) (T := TX8) (N := 12) hx hb hts iX8_removeName_X8 hown hK hP 0 rfl rfl 1 (by decide) (hts _ (List.mem_of_getElem? (i := 1) rfl)) (fun _ h9 => h9) rfl dX8_removeName_61 ?_
    refine lv_iconst (v := 1) hx hb dX8_removeName_64 (by decide) ?_
    refine lv_dup2_11 hx hb dX8_removeName_65 rfl rfl ?_
    refine xa_ldK hx hb hK hP 1 0 rfl rfl 1 rfl (by decide) (by decide) dX8_removeName_66 ?_
    refine lv_iconst (v := 1) hx hb dX8_removeName_67 (by decide) ?_
    refine lv_isub hx hb dX8_removeName_68 ?_
    refine xa_stK hx hb hK hP hD hS 1 0 rfl rfl 1 rfl (by decide) (by decide) dX8_removeName_69 (fun H locs hP hD hS => ?_)
    have hP : va_P (dC, dI) vwCl [(a_t, .inr (7, [.int v_t_thrown, .ref a_t_state, .ref a_t_kept, .ref a_t_stack, .int v_t_saved, .ref a_t_text, .int v_t_textLength, .int v_t_place, .int v_t_sign, .int v_t_readLetters, .int v_t_readLength, .int v_t_readNumber])), (a_t_state, .inl (cA, 255, .inl (upd f_t_state_E6 1 ((f_t_state_E6 1) - 1))))] H := hP
    have hD : va_D A [(a_t, .inr (7, [.int v_t_thrown, .ref a_t_state, .ref a_t_kept, .ref a_t_stack, .int v_t_saved, .ref a_t_text, .int v_t_textLength, .int v_t_place, .int v_t_sign, .int v_t_readLetters, .int v_t_readLength, .int v_t_readNumber])), (a_t_state, .inl (cA, 255, .inl (upd f_t_state_E6 1 ((f_t_state_E6 1) - 1))))] := hD
    refine lv_iconst (v := 0) hx hb dX8_removeName_70 (by decide) ?_
    refine lv_istore_n (lv' := [(2, .int 0), (0, .ref a_t), (1, .int p1)]) hx hb dX8_removeName_71 rfl hl (by decide) rfl (fun ls hl => ?_)
    refine lv_aload_n hx hb dX8_removeName_72 rfl (lv_at hl 1 rfl) ?_
    refine lv_iload_n hx hb dX8_removeName_73 rfl (lv_at hl 2 rfl) ?_
    obtain ⟨r74, e74, hm⟩ := bs hm
    try dsimp only at hm
    refine ro_callVe ⟨hx, hb, hml, hown, hts⟩ (kX8_findHouse l dC dI cA a_t a_t_state a_t_kept a_t_stack a_t_text v_t_thrown v_t_saved v_t_textLength v_t_place v_t_sign v_t_readLetters v_t_readLength v_t_readNumber (upd f_t_state_E6 1 ((f_t_state_E6 1) - 1)) p1 r74 e74) (cwV 1 hts gX8_removeName_X8_findHouse rfl rfl rfl hdX8_findHouse ⟨Nat.le_of_ble_eq_true rfl, Nat.le_of_ble_eq_true rfl⟩) (hP.sub [0, 1] rfl) hK rfl rfl rfl hl.1 rfl (Nat.le_of_ble_eq_true rfl) dX8_removeName_74 ⟨Nat.zero_le _, Nat.zero_le _⟩ ?_
    refine lv_istore_n (lv' := [(3, .int r74), (2, .int 0), (0, .ref a_t), (1, .int p1)]) hx hb dX8_removeName_77 rfl hl (by decide) rfl (fun ls hl => ?_)
    obtain ⟨⟨y2_78, y3_78, f_t_state_E78⟩, e78, hm⟩ := bs hm
    try dsimp only at hm
    refine wX8_removeName_L78 dC dI cA a_t a_t_state a_t_kept a_t_stack a_t_text v_t_thrown v_t_saved v_t_textLength v_t_place v_t_sign v_t_readLetters v_t_readLength v_t_readNumber p1  y2_78 y3_78 f_t_state_E78 hx hb hml hown hts hA hK ?_ FU _ _ _ e78 _ _ (hP.sub [0, 1] rfl) (hD.sub [0, 1] (by decide) rfl) hS _ (lv_sub hl [2, 1, 0] rfl)
    · intro H locs hP hD hS ls hl
      refine lv_aload_n hx hb dX8_removeName_124 rfl (lv_at hl 0 rfl) ?_
      refine va_get (D := (dC, dI)) (ci := 7) (C := RX8) (T := TX8) (N := 12) hx hb hts iX8_removeName_X8 hown hK hP 0 rfl rfl 1 (by decide) (hts _ (List.mem_of_getElem? (i := 1) rfl)) (fun _ h9 => h9) rfl dX8_removeName_125 ?_
      refine lv_bipush (v := 6) hx hb dX8_removeName_128 (by decide) ?_
      refine lv_dup2_11 hx hb dX8_removeName_130 rfl rfl ?_
      refine xa_ldK hx hb hK hP 1 0 rfl rfl 6 rfl (by decide) (by decide) dX8_removeName_131 ?_
      refine lv_iload_n hx hb dX8_removeName_132 rfl (lv_at hl 1 rfl) ?_
      refine lv_iadd hx hb dX8_removeName_133 ?_
      refine xa_stK hx hb hK hP hD hS 1 0 rfl rfl 6 rfl (by decide) (by decide) dX8_removeName_134 (fun H locs hP hD hS => ?_)
      have hP : va_P (dC, dI) vwCl [(a_t, .inr (7, [.int v_t_thrown, .ref a_t_state, .ref a_t_kept, .ref a_t_stack, .int v_t_saved, .ref a_t_text, .int v_t_textLength, .int v_t_place, .int v_t_sign, .int v_t_readLetters, .int v_t_readLength, .int v_t_readNumber])), (a_t_state, .inl (cA, 255, .inl (upd f_t_state_E78 6 ((f_t_state_E78 6) + y2_78))))] H := hP
      have hD : va_D A [(a_t, .inr (7, [.int v_t_thrown, .ref a_t_state, .ref a_t_kept, .ref a_t_stack, .int v_t_saved, .ref a_t_text, .int v_t_textLength, .int v_t_place, .int v_t_sign, .int v_t_readLetters, .int v_t_readLength, .int v_t_readNumber])), (a_t_state, .inl (cA, 255, .inl (upd f_t_state_E78 6 ((f_t_state_E78 6) + y2_78))))] := hD
      refine lv_iload_n hx hb dX8_removeName_135 rfl (lv_at hl 1 rfl) ?_
      cases hm
      exact mu_iret hx hb hr rfl rfl hP hD hS hK [0, 1] rfl (by decide) dX8_removeName_136 hlocks
def mX8_remove (v_t_saved : Int32) (f_t_state : Nat → Int32) (f_t_stack : Nat → Int32) (p1 : Int32) (p2 : Int32) : Option (Int32 × Int32 × Int32 × (Nat → Int32) × (Nat → Int32)) :=
  ((mX8_whyNotThere f_t_state p1 p2).bind fun r4 =>
  (if r4 ≤ 0 then
    ((mX8_save v_t_saved f_t_state f_t_stack).bind fun (v_t_saved_20, f_t_stack_20) =>
    ((mX8_removeName f_t_state (mX8_code p1 p2)).bind fun (r29, f_t_state_29) =>
    some (r29, r4, v_t_saved_20, f_t_state_29, f_t_stack_20)))
  else
    some (0, r4, v_t_saved, f_t_state, f_t_stack)))
abbrev rmX8_remove : Room := { frames := 7, cells := 0, slots := 0, locals := 151 }
abbrev wX8_remove (cA : ClassId) (a_t a_t_state a_t_kept a_t_stack a_t_text : Nat) (v_t_thrown v_t_saved v_t_textLength v_t_place v_t_sign v_t_readLetters v_t_readLength v_t_readNumber : Int32) (f_t_state f_t_stack : Nat → Int32) : va_W := [(a_t, .inr (7, [.int v_t_thrown, .ref a_t_state, .ref a_t_kept, .ref a_t_stack, .int v_t_saved, .ref a_t_text, .int v_t_textLength, .int v_t_place, .int v_t_sign, .int v_t_readLetters, .int v_t_readLength, .int v_t_readNumber])), (a_t_state, .inl (cA, 255, .inl f_t_state)), (a_t_stack, .inl (cA, 1020, .inl f_t_stack))]
theorem iX8_remove_X8 : ∀ w ∈ wsX80, w ∈ wsX8_remove := (fun _ h => List.mem_cons_of_mem _ (List.mem_append_right _ h))
theorem hdX8_remove : yX8_remove.cls = RX8 ∧ yX8_remove.cls ≠ "java/lang/invoke/MethodHandle" ∧ yX8_remove.cls ≠ "java/lang/invoke/VarHandle" ∧ (parseMethodDescriptor yX8_remove.desc).map (fun d => d.parameters.length) = some 2 := by decide +kernel
set_option maxHeartbeats 4000000 in
set_option maxRecDepth 100000 in
theorem kX8_remove (l : Launch) (dC : Nat → ClassId) (dI : Nat → Nat → Nat) (cA : ClassId) (a_t a_t_state a_t_kept a_t_stack a_t_text : Nat) (v_t_thrown v_t_saved v_t_textLength v_t_place v_t_sign v_t_readLetters v_t_readLength v_t_readNumber : Int32) (f_t_state f_t_stack : Nat → Int32) (p1 p2 : Int32) (sz : Nat) (r o_v_t_thrown o_v_t_saved : Int32) (o_f_t_state o_f_t_stack : Nat → Int32) (hm : (mX8_remove v_t_saved f_t_state f_t_stack p1 p2) = some (r, o_v_t_thrown, o_v_t_saved, o_f_t_state, o_f_t_stack)) : Met l yX8_remove wsX8_remove rmX8_remove (mpc (dC, dI) [(cA, .int)] (wX8_remove cA a_t a_t_state a_t_kept a_t_stack a_t_text v_t_thrown v_t_saved v_t_textLength v_t_place v_t_sign v_t_readLetters v_t_readLength v_t_readNumber f_t_state f_t_stack) [.ref a_t, .int p1, .int p2] sz) (mqi (dC, dI) [(cA, .int)] (va_A (wX8_remove cA a_t a_t_state a_t_kept a_t_stack a_t_text v_t_thrown v_t_saved v_t_textLength v_t_place v_t_sign v_t_readLetters v_t_readLength v_t_readNumber f_t_state f_t_stack) sz) (wX8_remove cA a_t a_t_state a_t_kept a_t_stack a_t_text o_v_t_thrown o_v_t_saved v_t_textLength v_t_place v_t_sign v_t_readLetters v_t_readLength v_t_readNumber o_f_t_state o_f_t_stack) (fun x => x = r)) 0 0 (va_A (wX8_remove cA a_t a_t_state a_t_kept a_t_stack a_t_text v_t_thrown v_t_saved v_t_textLength v_t_place v_t_sign v_t_readLetters v_t_readLength v_t_readNumber f_t_state f_t_stack) sz) := by
  unfold mX8_remove at hm
  refine mu_ofW (Qc := fun A => mqi (dC, dI) [(cA, .int)] A (wX8_remove cA a_t a_t_state a_t_kept a_t_stack a_t_text o_v_t_thrown o_v_t_saved v_t_textLength v_t_place v_t_sign v_t_readLetters v_t_readLength v_t_readNumber o_f_t_state o_f_t_stack) (fun x => x = r)) (cc := cX8_remove) (maxL := 3) (ret := (some .int)) (own := RX8) (by decide) rfl rfl (Nat.le_of_ble_eq_true rfl) ?_
  intro p e s m args below meth c hx hb hr hts hown hlocks hml hin A hA hP hD hS hK ls hl
  have hl : lv_has ls 3 [(0, .ref a_t), (1, .int p1), (2, .int p2)] := hl
  have hP : va_P (dC, dI) vwCl [(a_t, .inr (7, [.int v_t_thrown, .ref a_t_state, .ref a_t_kept, .ref a_t_stack, .int v_t_saved, .ref a_t_text, .int v_t_textLength, .int v_t_place, .int v_t_sign, .int v_t_readLetters, .int v_t_readLength, .int v_t_readNumber])), (a_t_state, .inl (cA, 255, .inl f_t_state)), (a_t_stack, .inl (cA, 1020, .inl f_t_stack))] s.heap := hP
  have hD : va_D A [(a_t, .inr (7, [.int v_t_thrown, .ref a_t_state, .ref a_t_kept, .ref a_t_stack, .int v_t_saved, .ref a_t_text, .int v_t_textLength, .int v_t_place, .int v_t_sign, .int v_t_readLetters, .int v_t_readLength, .int v_t_readNumber])), (a_t_state, .inl (cA, 255, .inl f_t_state)), (a_t_stack, .inl (cA, 1020, .inl f_t_stack))] := hD
  refine lv_aload_n hx hb dX8_remove_0 rfl (lv_at hl 0 rfl) ?_
  refine lv_aload_n hx hb dX8_remove_1 rfl (lv_at hl 0 rfl) ?_
  refine lv_iload_n hx hb dX8_remove_2 rfl (lv_at hl 1 rfl) ?_
  refine lv_iload_n hx hb dX8_remove_3 rfl (lv_at hl 2 rfl) ?_
  obtain ⟨r4, e4, hm⟩ := bs hm
  try dsimp only at hm
  refine ro_callVe ⟨hx, hb, hml, hown, hts⟩ (kX8_whyNotThere l dC dI cA a_t a_t_state a_t_kept a_t_stack a_t_text v_t_thrown v_t_saved v_t_textLength v_t_place v_t_sign v_t_readLetters v_t_readLength v_t_readNumber f_t_state p1 p2 r4 e4) (cwV 2 hts gX8_remove_X8_whyNotThere rfl rfl rfl hdX8_whyNotThere ⟨Nat.le_of_ble_eq_true rfl, Nat.le_of_ble_eq_true rfl⟩) (hP.sub [0, 1] rfl) hK rfl rfl rfl hl.1 rfl (Nat.le_of_ble_eq_true rfl) dX8_remove_4 ⟨Nat.zero_le _, Nat.zero_le _⟩ ?_
  refine va_put (D := (dC, dI)) (ci := 7) (C := RX8) (T := TX8) (N := 12) (ty := .int) hx hb hts iX8_remove_X8 tyX8 tyX8_ok nmX8 hown hK hP hD hS 0 rfl rfl 0 (by decide) (hts _ (List.mem_of_getElem? (i := 1) rfl)) (fun _ h9 => h9) rfl (by decide +kernel) rfl rfl (Nat.le_of_ble_eq_true rfl) dX8_remove_7 (fun H locs hP hD hS => ?_)
  have hP : va_P (dC, dI) vwCl [(a_t, .inr (7, [.int r4, .ref a_t_state, .ref a_t_kept, .ref a_t_stack, .int v_t_saved, .ref a_t_text, .int v_t_textLength, .int v_t_place, .int v_t_sign, .int v_t_readLetters, .int v_t_readLength, .int v_t_readNumber])), (a_t_state, .inl (cA, 255, .inl f_t_state)), (a_t_stack, .inl (cA, 1020, .inl f_t_stack))] H := hP
  have hD : va_D A [(a_t, .inr (7, [.int r4, .ref a_t_state, .ref a_t_kept, .ref a_t_stack, .int v_t_saved, .ref a_t_text, .int v_t_textLength, .int v_t_place, .int v_t_sign, .int v_t_readLetters, .int v_t_readLength, .int v_t_readNumber])), (a_t_state, .inl (cA, 255, .inl f_t_state)), (a_t_stack, .inl (cA, 1020, .inl f_t_stack))] := hD
  refine lv_aload_n hx hb dX8_remove_10 rfl (lv_at hl 0 rfl) ?_
  refine va_get (D := (dC, dI)) (ci := 7) (C := RX8) (T := TX8) (N := 12) hx hb hts iX8_remove_X8 hown hK hP 0 rfl rfl 0 (by decide) (hts _ (List.mem_of_getElem? (i := 1) rfl)) (fun _ h9 => h9) rfl dX8_remove_11 ?_
  refine lv_if_le (tgt := 19) hx hb dX8_remove_14 (by decide) (fun c14 => ?_) (fun c14 => ?_)
  · rw [if_pos c14] at hm
    refine lv_aload_n hx hb dX8_remove_19 rfl (lv_at hl 0 rfl) ?_
    obtain ⟨⟨v_t_saved_20, f_t_stack_20⟩, e20, hm⟩ := bs hm
    try dsimp only at hm
    refine mu_callVv (wr := []) ⟨hx, hb, hml, hown, hts⟩ (kX8_save l dC dI cA a_t a_t_state a_t_kept a_t_stack a_t_text r4 v_t_saved v_t_textLength v_t_place v_t_sign v_t_readLetters v_t_readLength v_t_readNumber f_t_state f_t_stack _ v_t_saved_20 f_t_stack_20 e20) (cwV 0 hts gX8_remove_X8_save rfl rfl rfl hdX8_save ⟨Nat.le_of_ble_eq_true rfl, Nat.le_of_ble_eq_true rfl⟩) hP hD hS hA hK [0, 1, 2] [] rfl rfl rfl rfl (by decide) rfl rfl rfl hl.1 rfl (Nat.le_of_ble_eq_true rfl) dX8_remove_20 ⟨Nat.zero_le _, Nat.zero_le _⟩ (fun H locs hP hD hS => ?_)
    have hP : va_P (dC, dI) vwCl [(a_t, .inr (7, [.int r4, .ref a_t_state, .ref a_t_kept, .ref a_t_stack, .int v_t_saved_20, .ref a_t_text, .int v_t_textLength, .int v_t_place, .int v_t_sign, .int v_t_readLetters, .int v_t_readLength, .int v_t_readNumber])), (a_t_state, .inl (cA, 255, .inl f_t_state)), (a_t_stack, .inl (cA, 1020, .inl f_t_stack_20))] H := hP
    have hD : va_D A [(a_t, .inr (7, [.int r4, .ref a_t_state, .ref a_t_kept, .ref a_t_stack, .int v_t_saved_20, .ref a_t_text, .int v_t_textLength, .int v_t_place, .int v_t_sign, .int v_t_readLetters, .int v_t_readLength, .int v_t_readNumber])), (a_t_state, .inl (cA, 255, .inl f_t_state)), (a_t_stack, .inl (cA, 1020, .inl f_t_stack_20))] := hD
    refine lv_aload_n hx hb dX8_remove_23 rfl (lv_at hl 0 rfl) ?_
    refine lv_iload_n hx hb dX8_remove_24 rfl (lv_at hl 1 rfl) ?_
    refine lv_iload_n hx hb dX8_remove_25 rfl (lv_at hl 2 rfl) ?_
    refine sp_callSe ⟨hx, hb, hml, hown, hts⟩ (kX8_code l p1 p2) (va_cwS 2 hts gX8_remove_X8_code rfl rfl rfl hdX8_code.2 ⟨Nat.le_of_ble_eq_true rfl, Nat.le_of_ble_eq_true rfl⟩) rfl hl.1 rfl (Nat.le_of_ble_eq_true rfl) dX8_remove_26 ⟨Nat.zero_le _, Nat.zero_le _⟩ ?_
    obtain ⟨⟨r29, f_t_state_29⟩, e29, hm⟩ := bs hm
    try dsimp only at hm
    refine mu_callVe (wr := [(a_t_stack, .inl (cA, 1020, .inl f_t_stack_20))]) ⟨hx, hb, hml, hown, hts⟩ (kX8_removeName l dC dI cA a_t a_t_state a_t_kept a_t_stack a_t_text r4 v_t_saved_20 v_t_textLength v_t_place v_t_sign v_t_readLetters v_t_readLength v_t_readNumber f_t_state (mX8_code p1 p2) _ r29 f_t_state_29 e29) (cwV 1 hts gX8_remove_X8_removeName rfl rfl rfl hdX8_removeName ⟨Nat.le_of_ble_eq_true rfl, Nat.le_of_ble_eq_true rfl⟩) hP hD hS hA hK [0, 1] [2] rfl rfl rfl rfl (by decide) rfl rfl rfl hl.1 rfl (Nat.le_of_ble_eq_true rfl) dX8_remove_29 ⟨Nat.zero_le _, Nat.zero_le _⟩ (fun H locs hP hD hS => ?_)
    have hP : va_P (dC, dI) vwCl [(a_t_stack, .inl (cA, 1020, .inl f_t_stack_20)), (a_t, .inr (7, [.int r4, .ref a_t_state, .ref a_t_kept, .ref a_t_stack, .int v_t_saved_20, .ref a_t_text, .int v_t_textLength, .int v_t_place, .int v_t_sign, .int v_t_readLetters, .int v_t_readLength, .int v_t_readNumber])), (a_t_state, .inl (cA, 255, .inl f_t_state_29))] H := hP
    have hD : va_D A [(a_t_stack, .inl (cA, 1020, .inl f_t_stack_20)), (a_t, .inr (7, [.int r4, .ref a_t_state, .ref a_t_kept, .ref a_t_stack, .int v_t_saved_20, .ref a_t_text, .int v_t_textLength, .int v_t_place, .int v_t_sign, .int v_t_readLetters, .int v_t_readLength, .int v_t_readNumber])), (a_t_state, .inl (cA, 255, .inl f_t_state_29))] := hD
    cases hm
    exact mu_iret hx hb hr rfl rfl hP hD hS hK [1, 2, 0] rfl (by decide) dX8_remove_32 hlocks
  · rw [if_neg c14] at hm
    refine lv_iconst (v := 0) hx hb dX8_remove_17 (by decide) ?_
    cases hm
    exact mu_iret hx hb hr rfl rfl hP hD hS hK [0, 1, 2] rfl (by decide) dX8_remove_18 hlocks
def mX8_setWeight (v_t_saved : Int32) (f_t_state : Nat → Int32) (f_t_stack : Nat → Int32) (p1 : Int32) (p2 : Int32) (p3 : Int32) : Option (Int32 × Int32 × Int32 × (Nat → Int32) × (Nat → Int32)) :=
  (if (mX8_within p3 0 99) = 0 then
    some (0, 1, v_t_saved, f_t_state, f_t_stack)
  else
    ((mX8_whyNotThere f_t_state p1 p2).bind fun r18 =>
    (if r18 ≤ 0 then
      ((mX8_save v_t_saved f_t_state f_t_stack).bind fun (v_t_saved_34, f_t_stack_34) =>
      ((mX8_findName f_t_state (mX8_code p1 p2)).bind fun r43 =>
      ((rdA 255 f_t_state (31 + r43)).bind fun r57 =>
      ((wrA 255 f_t_state (31 + r43) p3).bind fun f_t_state_70 =>
      some (r57, r18, v_t_saved_34, f_t_state_70, f_t_stack_34)))))
    else
      some (0, r18, v_t_saved, f_t_state, f_t_stack))))
abbrev rmX8_setWeight : Room := { frames := 4, cells := 0, slots := 0, locals := 88 }
abbrev wX8_setWeight (cA : ClassId) (a_t a_t_state a_t_kept a_t_stack a_t_text : Nat) (v_t_thrown v_t_saved v_t_textLength v_t_place v_t_sign v_t_readLetters v_t_readLength v_t_readNumber : Int32) (f_t_state f_t_stack : Nat → Int32) : va_W := [(a_t, .inr (7, [.int v_t_thrown, .ref a_t_state, .ref a_t_kept, .ref a_t_stack, .int v_t_saved, .ref a_t_text, .int v_t_textLength, .int v_t_place, .int v_t_sign, .int v_t_readLetters, .int v_t_readLength, .int v_t_readNumber])), (a_t_state, .inl (cA, 255, .inl f_t_state)), (a_t_stack, .inl (cA, 1020, .inl f_t_stack))]
theorem iX8_setWeight_X8 : ∀ w ∈ wsX80, w ∈ wsX8_setWeight := (fun _ h => List.mem_cons_of_mem _ (List.mem_append_right _ h))
theorem hdX8_setWeight : yX8_setWeight.cls = RX8 ∧ yX8_setWeight.cls ≠ "java/lang/invoke/MethodHandle" ∧ yX8_setWeight.cls ≠ "java/lang/invoke/VarHandle" ∧ (parseMethodDescriptor yX8_setWeight.desc).map (fun d => d.parameters.length) = some 3 := by decide +kernel
set_option maxHeartbeats 4000000 in
set_option maxRecDepth 100000 in
theorem kX8_setWeight (l : Launch) (dC : Nat → ClassId) (dI : Nat → Nat → Nat) (cA : ClassId) (a_t a_t_state a_t_kept a_t_stack a_t_text : Nat) (v_t_thrown v_t_saved v_t_textLength v_t_place v_t_sign v_t_readLetters v_t_readLength v_t_readNumber : Int32) (f_t_state f_t_stack : Nat → Int32) (p1 p2 p3 : Int32) (sz : Nat) (r o_v_t_thrown o_v_t_saved : Int32) (o_f_t_state o_f_t_stack : Nat → Int32) (hm : (mX8_setWeight v_t_saved f_t_state f_t_stack p1 p2 p3) = some (r, o_v_t_thrown, o_v_t_saved, o_f_t_state, o_f_t_stack)) : Met l yX8_setWeight wsX8_setWeight rmX8_setWeight (mpc (dC, dI) [(cA, .int)] (wX8_setWeight cA a_t a_t_state a_t_kept a_t_stack a_t_text v_t_thrown v_t_saved v_t_textLength v_t_place v_t_sign v_t_readLetters v_t_readLength v_t_readNumber f_t_state f_t_stack) [.ref a_t, .int p1, .int p2, .int p3] sz) (mqi (dC, dI) [(cA, .int)] (va_A (wX8_setWeight cA a_t a_t_state a_t_kept a_t_stack a_t_text v_t_thrown v_t_saved v_t_textLength v_t_place v_t_sign v_t_readLetters v_t_readLength v_t_readNumber f_t_state f_t_stack) sz) (wX8_setWeight cA a_t a_t_state a_t_kept a_t_stack a_t_text o_v_t_thrown o_v_t_saved v_t_textLength v_t_place v_t_sign v_t_readLetters v_t_readLength v_t_readNumber o_f_t_state o_f_t_stack) (fun x => x = r)) 0 0 (va_A (wX8_setWeight cA a_t a_t_state a_t_kept a_t_stack a_t_text v_t_thrown v_t_saved v_t_textLength v_t_place v_t_sign v_t_readLetters v_t_readLength v_t_readNumber f_t_state f_t_stack) sz) := by
  unfold mX8_setWeight at hm
  refine mu_ofW (Qc := fun A => mqi (dC, dI) [(cA, .int)] A (wX8_setWeight cA a_t a_t_state a_t_kept a_t_stack a_t_text o_v_t_thrown o_v_t_saved v_t_textLength v_t_place v_t_sign v_t_readLetters v_t_readLength v_t_readNumber o_f_t_state o_f_t_stack) (fun x => x = r)) (cc := cX8_setWeight) (maxL := 6) (ret := (some .int)) (own := RX8) (by decide) rfl rfl (Nat.le_of_ble_eq_true rfl) ?_
  intro p e s m args below meth c hx hb hr hts hown hlocks hml hin A hA hP hD hS hK ls hl
  have hl : lv_has ls 6 [(0, .ref a_t), (1, .int p1), (2, .int p2), (3, .int p3)] := hl
  have hP : va_P (dC, dI) vwCl [(a_t, .inr (7, [.int v_t_thrown, .ref a_t_state, .ref a_t_kept, .ref a_t_stack, .int v_t_saved, .ref a_t_text, .int v_t_textLength, .int v_t_place, .int v_t_sign, .int v_t_readLetters, .int v_t_readLength, .int v_t_readNumber])), (a_t_state, .inl (cA, 255, .inl f_t_state)), (a_t_stack, .inl (cA, 1020, .inl f_t_stack))] s.heap := hP
  have hD : va_D A [(a_t, .inr (7, [.int v_t_thrown, .ref a_t_state, .ref a_t_kept, .ref a_t_stack, .int v_t_saved, .ref a_t_text, .int v_t_textLength, .int v_t_place, .int v_t_sign, .int v_t_readLetters, .int v_t_readLength, .int v_t_readNumber])), (a_t_state, .inl (cA, 255, .inl f_t_state)), (a_t_stack, .inl (cA, 1020, .inl f_t_stack))] := hD
  refine lv_aload_n hx hb dX8_setWeight_0 rfl (lv_at hl 0 rfl) ?_
  refine lv_iload_n hx hb dX8_setWeight_1 rfl (lv_at hl 3 rfl) ?_
  refine lv_iconst (v := 0) hx hb dX8_setWeight_2 (by decide) ?_
  refine lv_bipush (v := 99) hx hb dX8_setWeight_3 (by decide) ?_
  refine sp_callSz ⟨hx, hb, hml, hown, hts⟩ (kX8_within l p3 0 99) (va_cwS 3 hts gX8_setWeight_X8_within rfl rfl rfl hdX8_within.2 ⟨Nat.le_of_ble_eq_true rfl, Nat.le_of_ble_eq_true rfl⟩) rfl hl.1 rfl (Nat.le_of_ble_eq_true rfl) dX8_setWeight_5 ⟨Nat.zero_le _, Nat.zero_le _⟩ (fun hb5 => ?_)
  refine lv_if_ne (tgt := 15) hx hb dX8_setWeight_8 (by decide) (fun c8 => ?_) (fun c8 => ?_)
  · rw [if_neg c8] at hm
    refine lv_aload_n hx hb dX8_setWeight_15 rfl (lv_at hl 0 rfl) ?_
    refine lv_iload_n hx hb dX8_setWeight_16 rfl (lv_at hl 1 rfl) ?_
    refine lv_iload_n hx hb dX8_setWeight_17 rfl (lv_at hl 2 rfl) ?_
    obtain ⟨r18, e18, hm⟩ := bs hm
    try dsimp only at hm
    refine ro_callVe ⟨hx, hb, hml, hown, hts⟩ (kX8_whyNotThere l dC dI cA a_t a_t_state a_t_kept a_t_stack a_t_text v_t_thrown v_t_saved v_t_textLength v_t_place v_t_sign v_t_readLetters v_t_readLength v_t_readNumber f_t_state p1 p2 r18 e18) (cwV 2 hts gX8_setWeight_X8_whyNotThere rfl rfl rfl hdX8_whyNotThere ⟨Nat.le_of_ble_eq_true rfl, Nat.le_of_ble_eq_true rfl⟩) (hP.sub [0, 1] rfl) hK rfl rfl rfl hl.1 rfl (Nat.le_of_ble_eq_true rfl) dX8_setWeight_18 ⟨Nat.zero_le _, Nat.zero_le _⟩ ?_
    refine va_put (D := (dC, dI)) (ci := 7) (C := RX8) (T := TX8) (N := 12) (ty := .int) hx hb hts iX8_setWeight_X8 tyX8 tyX8_ok nmX8 hown hK hP hD hS 0 rfl rfl 0 (by decide) (hts _ (List.mem_of_getElem? (i := 1) rfl)) (fun _ h9 => h9) rfl (by decide +kernel) rfl rfl (Nat.le_of_ble_eq_true rfl) dX8_setWeight_21 (fun H locs hP hD hS => ?_)
    have hP : va_P (dC, dI) vwCl [(a_t, .inr (7, [.int r18, .ref a_t_state, .ref a_t_kept, .ref a_t_stack, .int v_t_saved, .ref a_t_text, .int v_t_textLength, .int v_t_place, .int v_t_sign, .int v_t_readLetters, .int v_t_readLength, .int v_t_readNumber])), (a_t_state, .inl (cA, 255, .inl f_t_state)), (a_t_stack, .inl (cA, 1020, .inl f_t_stack))] H := hP
    have hD : va_D A [(a_t, .inr (7, [.int r18, .ref a_t_state, .ref a_t_kept, .ref a_t_stack, .int v_t_saved, .ref a_t_text, .int v_t_textLength, .int v_t_place, .int v_t_sign, .int v_t_readLetters, .int v_t_readLength, .int v_t_readNumber])), (a_t_state, .inl (cA, 255, .inl f_t_state)), (a_t_stack, .inl (cA, 1020, .inl f_t_stack))] := hD
    refine lv_aload_n hx hb dX8_setWeight_24 rfl (lv_at hl 0 rfl) ?_
    refine va_get (D := (dC, dI)) (ci := 7) (C := RX8) (T := TX8) (N := 12) hx hb hts iX8_setWeight_X8 hown hK hP 0 rfl rfl 0 (by decide) (hts _ (List.mem_of_getElem? (i := 1) rfl)) (fun _ h9 => h9) rfl dX8_setWeight_25 ?_
    refine lv_if_le (tgt := 33) hx hb dX8_setWeight_28 (by decide) (fun c28 => ?_) (fun c28 => ?_)
    · rw [if_pos c28] at hm
      refine lv_aload_n hx hb dX8_setWeight_33 rfl (lv_at hl 0 rfl) ?_
      obtain ⟨⟨v_t_saved_34, f_t_stack_34⟩, e34, hm⟩ := bs hm
      try dsimp only at hm
      refine mu_callVv (wr := []) ⟨hx, hb, hml, hown, hts⟩ (kX8_save l dC dI cA a_t a_t_state a_t_kept a_t_stack a_t_text r18 v_t_saved v_t_textLength v_t_place v_t_sign v_t_readLetters v_t_readLength v_t_readNumber f_t_state f_t_stack _ v_t_saved_34 f_t_stack_34 e34) (cwV 0 hts gX8_setWeight_X8_save rfl rfl rfl hdX8_save ⟨Nat.le_of_ble_eq_true rfl, Nat.le_of_ble_eq_true rfl⟩) hP hD hS hA hK [0, 1, 2] [] rfl rfl rfl rfl (by decide) rfl rfl rfl hl.1 rfl (Nat.le_of_ble_eq_true rfl) dX8_setWeight_34 ⟨Nat.zero_le _, Nat.zero_le _⟩ (fun H locs hP hD hS => ?_)
      have hP : va_P (dC, dI) vwCl [(a_t, .inr (7, [.int r18, .ref a_t_state, .ref a_t_kept, .ref a_t_stack, .int v_t_saved_34, .ref a_t_text, .int v_t_textLength, .int v_t_place, .int v_t_sign, .int v_t_readLetters, .int v_t_readLength, .int v_t_readNumber])), (a_t_state, .inl (cA, 255, .inl f_t_state)), (a_t_stack, .inl (cA, 1020, .inl f_t_stack_34))] H := hP
      have hD : va_D A [(a_t, .inr (7, [.int r18, .ref a_t_state, .ref a_t_kept, .ref a_t_stack, .int v_t_saved_34, .ref a_t_text, .int v_t_textLength, .int v_t_place, .int v_t_sign, .int v_t_readLetters, .int v_t_readLength, .int v_t_readNumber])), (a_t_state, .inl (cA, 255, .inl f_t_state)), (a_t_stack, .inl (cA, 1020, .inl f_t_stack_34))] := hD
      refine lv_aload_n hx hb dX8_setWeight_37 rfl (lv_at hl 0 rfl) ?_
      refine lv_iload_n hx hb dX8_setWeight_38 rfl (lv_at hl 1 rfl) ?_
      refine lv_iload_n hx hb dX8_setWeight_39 rfl (lv_at hl 2 rfl) ?_
      refine sp_callSe ⟨hx, hb, hml, hown, hts⟩ (kX8_code l p1 p2) (va_cwS 2 hts gX8_setWeight_X8_code rfl rfl rfl hdX8_code.2 ⟨Nat.le_of_ble_eq_true rfl, Nat.le_of_ble_eq_true rfl⟩) rfl hl.1 rfl (Nat.le_of_ble_eq_true rfl) dX8_setWeight_40 ⟨Nat.zero_le _, Nat.zero_le _⟩ ?_
      obtain ⟨r43, e43, hm⟩ := bs hm
      try dsimp only at hm
      refine ro_callVe ⟨hx, hb, hml, hown, hts⟩ (kX8_findName l dC dI cA a_t a_t_state a_t_kept a_t_stack a_t_text r18 v_t_saved_34 v_t_textLength v_t_place v_t_sign v_t_readLetters v_t_readLength v_t_readNumber f_t_state (mX8_code p1 p2) r43 e43) (cwV 1 hts gX8_setWeight_X8_findName rfl rfl rfl hdX8_findName ⟨Nat.le_of_ble_eq_true rfl, Nat.le_of_ble_eq_true rfl⟩) (hP.sub [0, 1] rfl) hK rfl rfl rfl hl.1 rfl (Nat.le_of_ble_eq_true rfl) dX8_setWeight_43 ⟨Nat.zero_le _, Nat.zero_le _⟩ ?_
      refine lv_istore (lv' := [(4, .int r43), (0, .ref a_t), (1, .int p1), (2, .int p2), (3, .int p3)]) hx hb dX8_setWeight_46 hl (by decide) rfl (fun ls hl => ?_)
      refine lv_aload_n hx hb dX8_setWeight_48 rfl (lv_at hl 1 rfl) ?_
      refine va_get (D := (dC, dI)) (ci := 7) (C := RX8) (T := TX8) (N := 12) hx hb hts iX8_setWeight_X8 hown hK hP 0 rfl rfl 1 (by decide) (hts _ (List.mem_of_getElem? (i := 2) rfl)) (fun _ h9 => h9) rfl dX8_setWeight_49 ?_
      refine lv_bipush (v := 31) hx hb dX8_setWeight_52 (by decide) ?_
      refine lv_iload hx hb dX8_setWeight_54 (lv_at hl 0 rfl) ?_
      refine lv_iadd hx hb dX8_setWeight_56 ?_
      obtain ⟨r57, e57, hm⟩ := bs hm
      try dsimp only at hm
      refine xa_ldO hx hb hK hP 1 0 rfl rfl e57 dX8_setWeight_57 ?_
      refine lv_istore (lv' := [(5, .int r57), (4, .int r43), (0, .ref a_t), (1, .int p1), (2, .int p2), (3, .int p3)]) hx hb dX8_setWeight_58 hl (by decide) rfl (fun ls hl => ?_)
      refine lv_aload_n hx hb dX8_setWeight_60 rfl (lv_at hl 2 rfl) ?_
      refine va_get (D := (dC, dI)) (ci := 7) (C := RX8) (T := TX8) (N := 12) hx hb hts iX8_setWeight_X8 hown hK hP 0 rfl rfl 1 (by decide) (hts _ (List.mem_of_getElem? (i := 2) rfl)) (fun _ h9 => h9) rfl dX8_setWeight_61 ?_
      refine lv_bipush (v := 31) hx hb dX8_setWeight_64 (by decide) ?_
      refine lv_iload hx hb dX8_setWeight_66 (lv_at hl 1 rfl) ?_
      refine lv_iadd hx hb dX8_setWeight_68 ?_
      refine lv_iload_n hx hb dX8_setWeight_69 rfl (lv_at hl 5 rfl) ?_
      obtain ⟨f_t_state_70, e70, hm⟩ := bs hm
      try dsimp only at hm
      refine xa_stO hx hb hK hP hD hS 1 0 rfl rfl e70 dX8_setWeight_70 (fun H locs hP hD hS => ?_)
      have hP : va_P (dC, dI) vwCl [(a_t, .inr (7, [.int r18, .ref a_t_state, .ref a_t_kept, .ref a_t_stack, .int v_t_saved_34, .ref a_t_text, .int v_t_textLength, .int v_t_place, .int v_t_sign, .int v_t_readLetters, .int v_t_readLength, .int v_t_readNumber])), (a_t_state, .inl (cA, 255, .inl f_t_state_70)), (a_t_stack, .inl (cA, 1020, .inl f_t_stack_34))] H := hP
      have hD : va_D A [(a_t, .inr (7, [.int r18, .ref a_t_state, .ref a_t_kept, .ref a_t_stack, .int v_t_saved_34, .ref a_t_text, .int v_t_textLength, .int v_t_place, .int v_t_sign, .int v_t_readLetters, .int v_t_readLength, .int v_t_readNumber])), (a_t_state, .inl (cA, 255, .inl f_t_state_70)), (a_t_stack, .inl (cA, 1020, .inl f_t_stack_34))] := hD
      refine lv_iload hx hb dX8_setWeight_71 (lv_at hl 0 rfl) ?_
      cases hm
      exact mu_iret hx hb hr rfl rfl hP hD hS hK [0, 1, 2] rfl (by decide) dX8_setWeight_73 hlocks
    · rw [if_neg c28] at hm
      refine lv_iconst (v := 0) hx hb dX8_setWeight_31 (by decide) ?_
      cases hm
      exact mu_iret hx hb hr rfl rfl hP hD hS hK [0, 1, 2] rfl (by decide) dX8_setWeight_32 hlocks
  · rw [if_pos c8] at hm
    refine lv_iconst (v := 1) hx hb dX8_setWeight_11 (by decide) ?_
    refine lv_goto (tgt := 21) hx hb dX8_setWeight_12 (by decide) ?_
    refine va_put (D := (dC, dI)) (ci := 7) (C := RX8) (T := TX8) (N := 12) (ty := .int) hx hb hts iX8_setWeight_X8 tyX8 tyX8_ok nmX8 hown hK hP hD hS 0 rfl rfl 0 (by decide) (hts _ (List.mem_of_getElem? (i := 1) rfl)) (fun _ h9 => h9) rfl (by decide +kernel) rfl rfl (Nat.le_of_ble_eq_true rfl) dX8_setWeight_21 (fun H locs hP hD hS => ?_)
    have hP : va_P (dC, dI) vwCl [(a_t, .inr (7, [.int 1, .ref a_t_state, .ref a_t_kept, .ref a_t_stack, .int v_t_saved, .ref a_t_text, .int v_t_textLength, .int v_t_place, .int v_t_sign, .int v_t_readLetters, .int v_t_readLength, .int v_t_readNumber])), (a_t_state, .inl (cA, 255, .inl f_t_state)), (a_t_stack, .inl (cA, 1020, .inl f_t_stack))] H := hP
    have hD : va_D A [(a_t, .inr (7, [.int 1, .ref a_t_state, .ref a_t_kept, .ref a_t_stack, .int v_t_saved, .ref a_t_text, .int v_t_textLength, .int v_t_place, .int v_t_sign, .int v_t_readLetters, .int v_t_readLength, .int v_t_readNumber])), (a_t_state, .inl (cA, 255, .inl f_t_state)), (a_t_stack, .inl (cA, 1020, .inl f_t_stack))] := hD
    refine lv_aload_n hx hb dX8_setWeight_24 rfl (lv_at hl 0 rfl) ?_
    refine va_get (D := (dC, dI)) (ci := 7) (C := RX8) (T := TX8) (N := 12) hx hb hts iX8_setWeight_X8 hown hK hP 0 rfl rfl 0 (by decide) (hts _ (List.mem_of_getElem? (i := 1) rfl)) (fun _ h9 => h9) rfl dX8_setWeight_25 ?_
    refine lv_if_le (tgt := 33) hx hb dX8_setWeight_28 (by decide) (fun c28 => absurd c28 (by decide)) (fun c28 => ?_)
    try rw [if_neg (show ¬ ((1 : Int32) ≤ 0) by decide)] at hm
    refine lv_iconst (v := 0) hx hb dX8_setWeight_31 (by decide) ?_
    cases hm
    exact mu_iret hx hb hr rfl rfl hP hD hS hK [0, 1, 2] rfl (by decide) dX8_setWeight_32 hlocks
def mX8_isLimit (p0 : Int32) : Int32 :=
  (mX8_within p0 1 8)
abbrev rmX8_isLimit : Room := { frames := 1, cells := 0, slots := 0, locals := 22 }
theorem hdX8_isLimit : yX8_isLimit.cls = RX8 ∧ yX8_isLimit.cls ≠ "java/lang/invoke/MethodHandle" ∧ yX8_isLimit.cls ≠ "java/lang/invoke/VarHandle" ∧ (parseMethodDescriptor yX8_isLimit.desc).map (fun d => d.parameters.length) = some 1 := by decide +kernel
set_option maxHeartbeats 4000000 in
set_option maxRecDepth 100000 in
theorem kX8_isLimit (l : Launch) (p0 : Int32) : Met l yX8_isLimit wsX8_isLimit rmX8_isLimit (spc [.int p0]) (vp_Si (fun x => x = (mX8_isLimit p0) ∧ nbr (mX8_isLimit p0))) 0 0 (fun _ => False) := by
  obtain ⟨r, hm⟩ : ∃ r, mX8_isLimit p0 = r := ⟨_, rfl⟩
  rw [hm]
  unfold mX8_isLimit at hm
  refine sp_ofW (cc := cX8_isLimit) (maxL := 1) (ret := (some .boolean)) (own := RX8) (by decide) rfl rfl (Nat.le_of_ble_eq_true rfl) ?_
  intro p e s m args below meth c hx hb hr hts hown hlocks hml ls hl
  have hl : lv_has ls 1 [(0, .int p0)] := hl
  refine lv_iload_n hx hb dX8_isLimit_0 rfl (lv_at hl 0 rfl) ?_
  refine lv_iconst (v := 1) hx hb dX8_isLimit_1 (by decide) ?_
  refine lv_bipush (v := 8) hx hb dX8_isLimit_2 (by decide) ?_
  refine sp_callSz ⟨hx, hb, hml, hown, hts⟩ (kX8_within l p0 1 8) (va_cwS 3 hts gX8_isLimit_X8_within rfl rfl rfl hdX8_within.2 ⟨Nat.le_of_ble_eq_true rfl, Nat.le_of_ble_eq_true rfl⟩) rfl hl.1 rfl (Nat.le_of_ble_eq_true rfl) dX8_isLimit_4 ⟨Nat.zero_le _, Nat.zero_le _⟩ (fun hb4 => ?_)
  subst hm
  exact ro_iret hx hb hr hb4 ⟨rfl, hb4⟩ dX8_isLimit_7 hlocks
def mX8_setLimit (v_t_saved : Int32) (f_t_state : Nat → Int32) (f_t_stack : Nat → Int32) (p1 : Int32) : Option (Int32 × Int32 × Int32 × (Nat → Int32) × (Nat → Int32)) :=
  (if (if (mX8_isLimit p1) = 0 then (1 : Int32) else 0) ≤ 0 then
    ((mX8_save v_t_saved f_t_state f_t_stack).bind fun (v_t_saved_26, f_t_stack_26) =>
    some ((f_t_state 0), (if (mX8_isLimit p1) = 0 then (1 : Int32) else 0), v_t_saved_26, (upd f_t_state 0 p1), f_t_stack_26))
  else
    some (0, (if (mX8_isLimit p1) = 0 then (1 : Int32) else 0), v_t_saved, f_t_state, f_t_stack))
abbrev rmX8_setLimit : Room := { frames := 2, cells := 0, slots := 0, locals := 45 }
abbrev wX8_setLimit (cA : ClassId) (a_t a_t_state a_t_kept a_t_stack a_t_text : Nat) (v_t_thrown v_t_saved v_t_textLength v_t_place v_t_sign v_t_readLetters v_t_readLength v_t_readNumber : Int32) (f_t_state f_t_stack : Nat → Int32) : va_W := [(a_t, .inr (7, [.int v_t_thrown, .ref a_t_state, .ref a_t_kept, .ref a_t_stack, .int v_t_saved, .ref a_t_text, .int v_t_textLength, .int v_t_place, .int v_t_sign, .int v_t_readLetters, .int v_t_readLength, .int v_t_readNumber])), (a_t_state, .inl (cA, 255, .inl f_t_state)), (a_t_stack, .inl (cA, 1020, .inl f_t_stack))]
theorem iX8_setLimit_X8 : ∀ w ∈ wsX80, w ∈ wsX8_setLimit := (fun _ h => List.mem_cons_of_mem _ (List.mem_append_right _ h))
theorem hdX8_setLimit : yX8_setLimit.cls = RX8 ∧ yX8_setLimit.cls ≠ "java/lang/invoke/MethodHandle" ∧ yX8_setLimit.cls ≠ "java/lang/invoke/VarHandle" ∧ (parseMethodDescriptor yX8_setLimit.desc).map (fun d => d.parameters.length) = some 1 := by decide +kernel
set_option maxHeartbeats 4000000 in
set_option maxRecDepth 100000 in
theorem kX8_setLimit (l : Launch) (dC : Nat → ClassId) (dI : Nat → Nat → Nat) (cA : ClassId) (a_t a_t_state a_t_kept a_t_stack a_t_text : Nat) (v_t_thrown v_t_saved v_t_textLength v_t_place v_t_sign v_t_readLetters v_t_readLength v_t_readNumber : Int32) (f_t_state f_t_stack : Nat → Int32) (p1 : Int32) (sz : Nat) (r o_v_t_thrown o_v_t_saved : Int32) (o_f_t_state o_f_t_stack : Nat → Int32) (hm : (mX8_setLimit v_t_saved f_t_state f_t_stack p1) = some (r, o_v_t_thrown, o_v_t_saved, o_f_t_state, o_f_t_stack)) : Met l yX8_setLimit wsX8_setLimit rmX8_setLimit (mpc (dC, dI) [(cA, .int)] (wX8_setLimit cA a_t a_t_state a_t_kept a_t_stack a_t_text v_t_thrown v_t_saved v_t_textLength v_t_place v_t_sign v_t_readLetters v_t_readLength v_t_readNumber f_t_state f_t_stack) [.ref a_t, .int p1] sz) (mqi (dC, dI) [(cA, .int)] (va_A (wX8_setLimit cA a_t a_t_state a_t_kept a_t_stack a_t_text v_t_thrown v_t_saved v_t_textLength v_t_place v_t_sign v_t_readLetters v_t_readLength v_t_readNumber f_t_state f_t_stack) sz) (wX8_setLimit cA a_t a_t_state a_t_kept a_t_stack a_t_text o_v_t_thrown o_v_t_saved v_t_textLength v_t_place v_t_sign v_t_readLetters v_t_readLength v_t_readNumber o_f_t_state o_f_t_stack) (fun x => x = r)) 0 0 (va_A (wX8_setLimit cA a_t a_t_state a_t_kept a_t_stack a_t_text v_t_thrown v_t_saved v_t_textLength v_t_place v_t_sign v_t_readLetters v_t_readLength v_t_readNumber f_t_state f_t_stack) sz) := by
  unfold mX8_setLimit at hm
  refine mu_ofW (Qc := fun A => mqi (dC, dI) [(cA, .int)] A (wX8_setLimit cA a_t a_t_state a_t_kept a_t_stack a_t_text o_v_t_thrown o_v_t_saved v_t_textLength v_t_place v_t_sign v_t_readLetters v_t_readLength v_t_readNumber o_f_t_state o_f_t_stack) (fun x => x = r)) (cc := cX8_setLimit) (maxL := 3) (ret := (some .int)) (own := RX8) (by decide) rfl rfl (Nat.le_of_ble_eq_true rfl) ?_
  intro p e s m args below meth c hx hb hr hts hown hlocks hml hin A hA hP hD hS hK ls hl
  have hl : lv_has ls 3 [(0, .ref a_t), (1, .int p1)] := hl
  have hP : va_P (dC, dI) vwCl [(a_t, .inr (7, [.int v_t_thrown, .ref a_t_state, .ref a_t_kept, .ref a_t_stack, .int v_t_saved, .ref a_t_text, .int v_t_textLength, .int v_t_place, .int v_t_sign, .int v_t_readLetters, .int v_t_readLength, .int v_t_readNumber])), (a_t_state, .inl (cA, 255, .inl f_t_state)), (a_t_stack, .inl (cA, 1020, .inl f_t_stack))] s.heap := hP
  have hD : va_D A [(a_t, .inr (7, [.int v_t_thrown, .ref a_t_state, .ref a_t_kept, .ref a_t_stack, .int v_t_saved, .ref a_t_text, .int v_t_textLength, .int v_t_place, .int v_t_sign, .int v_t_readLetters, .int v_t_readLength, .int v_t_readNumber])), (a_t_state, .inl (cA, 255, .inl f_t_state)), (a_t_stack, .inl (cA, 1020, .inl f_t_stack))] := hD
  refine lv_aload_n hx hb dX8_setLimit_0 rfl (lv_at hl 0 rfl) ?_
  refine lv_iload_n hx hb dX8_setLimit_1 rfl (lv_at hl 1 rfl) ?_
  refine sp_callSz ⟨hx, hb, hml, hown, hts⟩ (kX8_isLimit l p1) (va_cwS 1 hts gX8_setLimit_X8_isLimit rfl rfl rfl hdX8_isLimit.2 ⟨Nat.le_of_ble_eq_true rfl, Nat.le_of_ble_eq_true rfl⟩) rfl hl.1 rfl (Nat.le_of_ble_eq_true rfl) dX8_setLimit_2 ⟨Nat.zero_le _, Nat.zero_le _⟩ (fun hb2 => ?_)
  refine lv_if_eq (tgt := 12) hx hb dX8_setLimit_5 (by decide) (fun c5 => ?_) (fun c5 => ?_)
  · try simp only [if_pos c5] at hm
    refine lv_iconst (v := 1) hx hb dX8_setLimit_12 (by decide) ?_
    refine va_put (D := (dC, dI)) (ci := 7) (C := RX8) (T := TX8) (N := 12) (ty := .int) hx hb hts iX8_setLimit_X8 tyX8 tyX8_ok nmX8 hown hK hP hD hS 0 rfl rfl 0 (by decide) (hts _ (List.mem_of_getElem? (i := 1) rfl)) (fun _ h9 => h9) rfl (by decide +kernel) rfl rfl (Nat.le_of_ble_eq_true rfl) dX8_setLimit_13 (fun H locs hP hD hS => ?_)
    have hP : va_P (dC, dI) vwCl [(a_t, .inr (7, [.int 1, .ref a_t_state, .ref a_t_kept, .ref a_t_stack, .int v_t_saved, .ref a_t_text, .int v_t_textLength, .int v_t_place, .int v_t_sign, .int v_t_readLetters, .int v_t_readLength, .int v_t_readNumber])), (a_t_state, .inl (cA, 255, .inl f_t_state)), (a_t_stack, .inl (cA, 1020, .inl f_t_stack))] H := hP
    have hD : va_D A [(a_t, .inr (7, [.int 1, .ref a_t_state, .ref a_t_kept, .ref a_t_stack, .int v_t_saved, .ref a_t_text, .int v_t_textLength, .int v_t_place, .int v_t_sign, .int v_t_readLetters, .int v_t_readLength, .int v_t_readNumber])), (a_t_state, .inl (cA, 255, .inl f_t_state)), (a_t_stack, .inl (cA, 1020, .inl f_t_stack))] := hD
    refine lv_aload_n hx hb dX8_setLimit_16 rfl (lv_at hl 0 rfl) ?_
    refine va_get (D := (dC, dI)) (ci := 7) (C := RX8) (T := TX8) (N := 12) hx hb hts iX8_setLimit_X8 hown hK hP 0 rfl rfl 0 (by decide) (hts _ (List.mem_of_getElem? (i := 1) rfl)) (fun _ h9 => h9) rfl dX8_setLimit_17 ?_
    refine lv_if_le (tgt := 25) hx hb dX8_setLimit_20 (by decide) (fun c20 => absurd c20 (by decide)) (fun c20 => ?_)
    try rw [if_neg (show ¬ ((1 : Int32) ≤ 0) by decide)] at hm
    refine lv_iconst (v := 0) hx hb dX8_setLimit_23 (by decide) ?_
    cases hm
    exact mu_iret hx hb hr rfl rfl hP hD hS hK [0, 1, 2] rfl (by decide) dX8_setLimit_24 hlocks
  · try simp only [if_neg c5] at hm
    refine lv_iconst (v := 0) hx hb dX8_setLimit_8 (by decide) ?_
    refine lv_goto (tgt := 13) hx hb dX8_setLimit_9 (by decide) ?_
    refine va_put (D := (dC, dI)) (ci := 7) (C := RX8) (T := TX8) (N := 12) (ty := .int) hx hb hts iX8_setLimit_X8 tyX8 tyX8_ok nmX8 hown hK hP hD hS 0 rfl rfl 0 (by decide) (hts _ (List.mem_of_getElem? (i := 1) rfl)) (fun _ h9 => h9) rfl (by decide +kernel) rfl rfl (Nat.le_of_ble_eq_true rfl) dX8_setLimit_13 (fun H locs hP hD hS => ?_)
    have hP : va_P (dC, dI) vwCl [(a_t, .inr (7, [.int 0, .ref a_t_state, .ref a_t_kept, .ref a_t_stack, .int v_t_saved, .ref a_t_text, .int v_t_textLength, .int v_t_place, .int v_t_sign, .int v_t_readLetters, .int v_t_readLength, .int v_t_readNumber])), (a_t_state, .inl (cA, 255, .inl f_t_state)), (a_t_stack, .inl (cA, 1020, .inl f_t_stack))] H := hP
    have hD : va_D A [(a_t, .inr (7, [.int 0, .ref a_t_state, .ref a_t_kept, .ref a_t_stack, .int v_t_saved, .ref a_t_text, .int v_t_textLength, .int v_t_place, .int v_t_sign, .int v_t_readLetters, .int v_t_readLength, .int v_t_readNumber])), (a_t_state, .inl (cA, 255, .inl f_t_state)), (a_t_stack, .inl (cA, 1020, .inl f_t_stack))] := hD
    refine lv_aload_n hx hb dX8_setLimit_16 rfl (lv_at hl 0 rfl) ?_
    refine va_get (D := (dC, dI)) (ci := 7) (C := RX8) (T := TX8) (N := 12) hx hb hts iX8_setLimit_X8 hown hK hP 0 rfl rfl 0 (by decide) (hts _ (List.mem_of_getElem? (i := 1) rfl)) (fun _ h9 => h9) rfl dX8_setLimit_17 ?_
    refine lv_if_le (tgt := 25) hx hb dX8_setLimit_20 (by decide) (fun c20 => ?_) (fun c20 => absurd c20 (by decide))
    try rw [if_pos (show (0 : Int32) ≤ 0 by decide)] at hm
    refine lv_aload_n hx hb dX8_setLimit_25 rfl (lv_at hl 0 rfl) ?_
    obtain ⟨⟨v_t_saved_26, f_t_stack_26⟩, e26, hm⟩ := bs hm
    try dsimp only at hm
    refine mu_callVv (wr := []) ⟨hx, hb, hml, hown, hts⟩ (kX8_save l dC dI cA a_t a_t_state a_t_kept a_t_stack a_t_text 0 v_t_saved v_t_textLength v_t_place v_t_sign v_t_readLetters v_t_readLength v_t_readNumber f_t_state f_t_stack _ v_t_saved_26 f_t_stack_26 e26) (cwV 0 hts gX8_setLimit_X8_save rfl rfl rfl hdX8_save ⟨Nat.le_of_ble_eq_true rfl, Nat.le_of_ble_eq_true rfl⟩) hP hD hS hA hK [0, 1, 2] [] rfl rfl rfl rfl (by decide) rfl rfl rfl hl.1 rfl (Nat.le_of_ble_eq_true rfl) dX8_setLimit_26 ⟨Nat.zero_le _, Nat.zero_le _⟩ (fun H locs hP hD hS => ?_)
    have hP : va_P (dC, dI) vwCl [(a_t, .inr (7, [.int 0, .ref a_t_state, .ref a_t_kept, .ref a_t_stack, .int v_t_saved_26, .ref a_t_text, .int v_t_textLength, .int v_t_place, .int v_t_sign, .int v_t_readLetters, .int v_t_readLength, .int v_t_readNumber])), (a_t_state, .inl (cA, 255, .inl f_t_state)), (a_t_stack, .inl (cA, 1020, .inl f_t_stack_26))] H := hP
    have hD : va_D A [(a_t, .inr (7, [.int 0, .ref a_t_state, .ref a_t_kept, .ref a_t_stack, .int v_t_saved_26, .ref a_t_text, .int v_t_textLength, .int v_t_place, .int v_t_sign, .int v_t_readLetters, .int v_t_readLength, .int v_t_readNumber])), (a_t_state, .inl (cA, 255, .inl f_t_state)), (a_t_stack, .inl (cA, 1020, .inl f_t_stack_26))] := hD
    refine lv_aload_n hx hb dX8_setLimit_29 rfl (lv_at hl 0 rfl) ?_
    refine va_get (D := (dC, dI)) (ci := 7) (C := RX8) (T := TX8) (N := 12) hx hb hts iX8_setLimit_X8 hown hK hP 0 rfl rfl 1 (by decide) (hts _ (List.mem_of_getElem? (i := 2) rfl)) (fun _ h9 => h9) rfl dX8_setLimit_30 ?_
    refine lv_iconst (v := 0) hx hb dX8_setLimit_33 (by decide) ?_
    refine xa_ldK hx hb hK hP 1 0 rfl rfl 0 rfl (by decide) (by decide) dX8_setLimit_34 ?_
    refine lv_istore_n (lv' := [(2, .int (f_t_state 0)), (0, .ref a_t), (1, .int p1)]) hx hb dX8_setLimit_35 rfl hl (by decide) rfl (fun ls hl => ?_)
    refine lv_aload_n hx hb dX8_setLimit_36 rfl (lv_at hl 1 rfl) ?_
    refine va_get (D := (dC, dI)) (ci := 7) (C := RX8) (T := TX8) (N := 12) hx hb hts iX8_setLimit_X8 hown hK hP 0 rfl rfl 1 (by decide) (hts _ (List.mem_of_getElem? (i := 2) rfl)) (fun _ h9 => h9) rfl dX8_setLimit_37 ?_
    refine lv_iconst (v := 0) hx hb dX8_setLimit_40 (by decide) ?_
    refine lv_iload_n hx hb dX8_setLimit_41 rfl (lv_at hl 2 rfl) ?_
    refine xa_stK hx hb hK hP hD hS 1 0 rfl rfl 0 rfl (by decide) (by decide) dX8_setLimit_42 (fun H locs hP hD hS => ?_)
    have hP : va_P (dC, dI) vwCl [(a_t, .inr (7, [.int 0, .ref a_t_state, .ref a_t_kept, .ref a_t_stack, .int v_t_saved_26, .ref a_t_text, .int v_t_textLength, .int v_t_place, .int v_t_sign, .int v_t_readLetters, .int v_t_readLength, .int v_t_readNumber])), (a_t_state, .inl (cA, 255, .inl (upd f_t_state 0 p1))), (a_t_stack, .inl (cA, 1020, .inl f_t_stack_26))] H := hP
    have hD : va_D A [(a_t, .inr (7, [.int 0, .ref a_t_state, .ref a_t_kept, .ref a_t_stack, .int v_t_saved_26, .ref a_t_text, .int v_t_textLength, .int v_t_place, .int v_t_sign, .int v_t_readLetters, .int v_t_readLength, .int v_t_readNumber])), (a_t_state, .inl (cA, 255, .inl (upd f_t_state 0 p1))), (a_t_stack, .inl (cA, 1020, .inl f_t_stack_26))] := hD
    refine lv_iload_n hx hb dX8_setLimit_43 rfl (lv_at hl 0 rfl) ?_
    cases hm
    exact mu_iret hx hb hr rfl rfl hP hD hS hK [0, 1, 2] rfl (by decide) dX8_setLimit_44 hlocks
def mX8_whyNotMoved (f_t_state : Nat → Int32) (p1 : Int32) (p2 : Int32) : Option (Int32) :=
  (if (mX8_isPrefix p1 p2 0) = 0 then
    some 1
  else
    ((mX8_findHouse f_t_state (mX8_code p1 p2)).bind fun r17 =>
    (if r17 = (-1) then
      some 2
    else
      ((mX8_whyNoMove f_t_state r17).bind fun r28 =>
      some (if r28 ≤ 0 then (0 : Int32) else 2)))))
abbrev rmX8_whyNotMoved : Room := { frames := 7, cells := 0, slots := 0, locals := 148 }
abbrev wX8_whyNotMoved (cA : ClassId) (a_t a_t_state a_t_kept a_t_stack a_t_text : Nat) (v_t_thrown v_t_saved v_t_textLength v_t_place v_t_sign v_t_readLetters v_t_readLength v_t_readNumber : Int32) (f_t_state : Nat → Int32) : va_W := [(a_t, .inr (7, [.int v_t_thrown, .ref a_t_state, .ref a_t_kept, .ref a_t_stack, .int v_t_saved, .ref a_t_text, .int v_t_textLength, .int v_t_place, .int v_t_sign, .int v_t_readLetters, .int v_t_readLength, .int v_t_readNumber])), (a_t_state, .inl (cA, 255, .inl f_t_state))]
theorem hdX8_whyNotMoved : yX8_whyNotMoved.cls = RX8 ∧ yX8_whyNotMoved.cls ≠ "java/lang/invoke/MethodHandle" ∧ yX8_whyNotMoved.cls ≠ "java/lang/invoke/VarHandle" ∧ (parseMethodDescriptor yX8_whyNotMoved.desc).map (fun d => d.parameters.length) = some 2 := by decide +kernel
set_option maxHeartbeats 4000000 in
set_option maxRecDepth 100000 in
theorem kX8_whyNotMoved (l : Launch) (dC : Nat → ClassId) (dI : Nat → Nat → Nat) (cA : ClassId) (a_t a_t_state a_t_kept a_t_stack a_t_text : Nat) (v_t_thrown v_t_saved v_t_textLength v_t_place v_t_sign v_t_readLetters v_t_readLength v_t_readNumber : Int32) (f_t_state : Nat → Int32) (p1 p2 r : Int32) (hm : (mX8_whyNotMoved f_t_state p1 p2) = some r) : Met l yX8_whyNotMoved wsX8_whyNotMoved rmX8_whyNotMoved (rpc (dC, dI) [(cA, .int)] (wX8_whyNotMoved cA a_t a_t_state a_t_kept a_t_stack a_t_text v_t_thrown v_t_saved v_t_textLength v_t_place v_t_sign v_t_readLetters v_t_readLength v_t_readNumber f_t_state) [.ref a_t, .int p1, .int p2]) (vp_Si (fun x => x = r)) 0 0 (fun _ => False) := by
  unfold mX8_whyNotMoved at hm
  refine ro_ofW (cc := cX8_whyNotMoved) (maxL := 4) (ret := (some .int)) (own := RX8) (by decide) rfl rfl (Nat.le_of_ble_eq_true rfl) ?_
  intro p e s m args below meth c hx hb hr hts hown hlocks hml hP hK ls hl
  have hl : lv_has ls 4 [(0, .ref a_t), (1, .int p1), (2, .int p2)] := hl
  have hP : va_P (dC, dI) vwCl [(a_t, .inr (7, [.int v_t_thrown, .ref a_t_state, .ref a_t_kept, .ref a_t_stack, .int v_t_saved, .ref a_t_text, .int v_t_textLength, .int v_t_place, .int v_t_sign, .int v_t_readLetters, .int v_t_readLength, .int v_t_readNumber])), (a_t_state, .inl (cA, 255, .inl f_t_state))] s.heap := hP
  refine lv_iload_n hx hb dX8_whyNotMoved_0 rfl (lv_at hl 1 rfl) ?_
  refine lv_iload_n hx hb dX8_whyNotMoved_1 rfl (lv_at hl 2 rfl) ?_
  refine lv_iconst (v := 0) hx hb dX8_whyNotMoved_2 (by decide) ?_
  refine sp_callSz ⟨hx, hb, hml, hown, hts⟩ (kX8_isPrefix l p1 p2 0) (va_cwS 3 hts gX8_whyNotMoved_X8_isPrefix rfl rfl rfl hdX8_isPrefix.2 ⟨Nat.le_of_ble_eq_true rfl, Nat.le_of_ble_eq_true rfl⟩) rfl hl.1 rfl (Nat.le_of_ble_eq_true rfl) dX8_whyNotMoved_3 ⟨Nat.zero_le _, Nat.zero_le _⟩ (fun hb3 => ?_)
  refine lv_if_ne (tgt := 11) hx hb dX8_whyNotMoved_6 (by decide) (fun c6 => ?_) (fun c6 => ?_)
  · rw [if_neg c6] at hm
    refine lv_aload_n hx hb dX8_whyNotMoved_11 rfl (lv_at hl 0 rfl) ?_
    refine lv_iload_n hx hb dX8_whyNotMoved_12 rfl (lv_at hl 1 rfl) ?_
    refine lv_iload_n hx hb dX8_whyNotMoved_13 rfl (lv_at hl 2 rfl) ?_
    refine sp_callSe ⟨hx, hb, hml, hown, hts⟩ (kX8_code l p1 p2) (va_cwS 2 hts gX8_whyNotMoved_X8_code rfl rfl rfl hdX8_code.2 ⟨Nat.le_of_ble_eq_true rfl, Nat.le_of_ble_eq_true rfl⟩) rfl hl.1 rfl (Nat.le_of_ble_eq_true rfl) dX8_whyNotMoved_14 ⟨Nat.zero_le _, Nat.zero_le _⟩ ?_
    obtain ⟨r17, e17, hm⟩ := bs hm
    try dsimp only at hm
    refine ro_callVe ⟨hx, hb, hml, hown, hts⟩ (kX8_findHouse l dC dI cA a_t a_t_state a_t_kept a_t_stack a_t_text v_t_thrown v_t_saved v_t_textLength v_t_place v_t_sign v_t_readLetters v_t_readLength v_t_readNumber f_t_state (mX8_code p1 p2) r17 e17) (cwV 1 hts gX8_whyNotMoved_X8_findHouse rfl rfl rfl hdX8_findHouse ⟨Nat.le_of_ble_eq_true rfl, Nat.le_of_ble_eq_true rfl⟩) (hP.sub [0, 1] rfl) hK rfl rfl rfl hl.1 rfl (Nat.le_of_ble_eq_true rfl) dX8_whyNotMoved_17 ⟨Nat.zero_le _, Nat.zero_le _⟩ ?_
    refine lv_istore_n (lv' := [(3, .int r17), (0, .ref a_t), (1, .int p1), (2, .int p2)]) hx hb dX8_whyNotMoved_20 rfl hl (by decide) rfl (fun ls hl => ?_)
    refine lv_iload_n hx hb dX8_whyNotMoved_21 rfl (lv_at hl 0 rfl) ?_
    refine lv_iconst (v := (-1)) hx hb dX8_whyNotMoved_22 (by decide) ?_
    refine lv_icmp_eq (tgt := 34) hx hb dX8_whyNotMoved_23 (by decide) (fun c23 => ?_) (fun c23 => ?_)
    · rw [if_pos c23] at hm
      refine lv_iconst (v := 2) hx hb dX8_whyNotMoved_34 (by decide) ?_
      refine lv_goto (tgt := 39) hx hb dX8_whyNotMoved_35 (by decide) ?_
      cases hm
      exact ro_iret hx hb hr rfl rfl dX8_whyNotMoved_39 hlocks
    · rw [if_neg c23] at hm
      refine lv_aload_n hx hb dX8_whyNotMoved_26 rfl (lv_at hl 1 rfl) ?_
      refine lv_iload_n hx hb dX8_whyNotMoved_27 rfl (lv_at hl 0 rfl) ?_
      obtain ⟨r28, e28, hm⟩ := bs hm
      try dsimp only at hm
      refine ro_callVe ⟨hx, hb, hml, hown, hts⟩ (kX8_whyNoMove l dC dI cA a_t a_t_state a_t_kept a_t_stack a_t_text v_t_thrown v_t_saved v_t_textLength v_t_place v_t_sign v_t_readLetters v_t_readLength v_t_readNumber f_t_state r17 r28 e28) (cwV 1 hts gX8_whyNotMoved_X8_whyNoMove rfl rfl rfl hdX8_whyNoMove ⟨Nat.le_of_ble_eq_true rfl, Nat.le_of_ble_eq_true rfl⟩) (hP.sub [0, 1] rfl) hK rfl rfl rfl hl.1 rfl (Nat.le_of_ble_eq_true rfl) dX8_whyNotMoved_28 ⟨Nat.zero_le _, Nat.zero_le _⟩ ?_
      refine lv_if_le (tgt := 38) hx hb dX8_whyNotMoved_31 (by decide) (fun c31 => ?_) (fun c31 => ?_)
      · try simp only [if_pos c31] at hm
        refine lv_iconst (v := 0) hx hb dX8_whyNotMoved_38 (by decide) ?_
        cases hm
        exact ro_iret hx hb hr rfl rfl dX8_whyNotMoved_39 hlocks
      · try simp only [if_neg c31] at hm
        refine lv_iconst (v := 2) hx hb dX8_whyNotMoved_34 (by decide) ?_
        refine lv_goto (tgt := 39) hx hb dX8_whyNotMoved_35 (by decide) ?_
        cases hm
        exact ro_iret hx hb hr rfl rfl dX8_whyNotMoved_39 hlocks
  · rw [if_pos c6] at hm
    refine lv_iconst (v := 1) hx hb dX8_whyNotMoved_9 (by decide) ?_
    cases hm
    exact ro_iret hx hb hr rfl rfl dX8_whyNotMoved_10 hlocks
def mX8_moves (f_t_state : Nat → Int32) (p1 : Int32) : Option (Int32 × (Nat → Int32)) :=
  ((mX8_labelOf f_t_state p1).bind fun r2 =>
  ((mX8_labelOf f_t_state (p1 + 1)).bind fun r9 =>
  ((mX8_dropHouse f_t_state p1).bind fun f_t_state_16 =>
  some ((r2 + r9), (upd f_t_state_16 3 ((f_t_state_16 3) + 1))))))
abbrev rmX8_moves : Room := { frames := 6, cells := 0, slots := 0, locals := 125 }
abbrev wX8_moves (cA : ClassId) (a_t a_t_state a_t_kept a_t_stack a_t_text : Nat) (v_t_thrown v_t_saved v_t_textLength v_t_place v_t_sign v_t_readLetters v_t_readLength v_t_readNumber : Int32) (f_t_state : Nat → Int32) : va_W := [(a_t, .inr (7, [.int v_t_thrown, .ref a_t_state, .ref a_t_kept, .ref a_t_stack, .int v_t_saved, .ref a_t_text, .int v_t_textLength, .int v_t_place, .int v_t_sign, .int v_t_readLetters, .int v_t_readLength, .int v_t_readNumber])), (a_t_state, .inl (cA, 255, .inl f_t_state))]
theorem iX8_moves_X8 : ∀ w ∈ wsX80, w ∈ wsX8_moves := (fun _ h => List.mem_cons_of_mem _ (List.mem_append_right _ h))
theorem hdX8_moves : yX8_moves.cls = RX8 ∧ yX8_moves.cls ≠ "java/lang/invoke/MethodHandle" ∧ yX8_moves.cls ≠ "java/lang/invoke/VarHandle" ∧ (parseMethodDescriptor yX8_moves.desc).map (fun d => d.parameters.length) = some 1 := by decide +kernel
set_option maxHeartbeats 4000000 in
set_option maxRecDepth 100000 in
theorem kX8_moves (l : Launch) (dC : Nat → ClassId) (dI : Nat → Nat → Nat) (cA : ClassId) (a_t a_t_state a_t_kept a_t_stack a_t_text : Nat) (v_t_thrown v_t_saved v_t_textLength v_t_place v_t_sign v_t_readLetters v_t_readLength v_t_readNumber : Int32) (f_t_state : Nat → Int32) (p1 : Int32) (sz : Nat) (r : Int32) (o_f_t_state : Nat → Int32) (hm : (mX8_moves f_t_state p1) = some (r, o_f_t_state)) : Met l yX8_moves wsX8_moves rmX8_moves (mpc (dC, dI) [(cA, .int)] (wX8_moves cA a_t a_t_state a_t_kept a_t_stack a_t_text v_t_thrown v_t_saved v_t_textLength v_t_place v_t_sign v_t_readLetters v_t_readLength v_t_readNumber f_t_state) [.ref a_t, .int p1] sz) (mqi (dC, dI) [(cA, .int)] (va_A (wX8_moves cA a_t a_t_state a_t_kept a_t_stack a_t_text v_t_thrown v_t_saved v_t_textLength v_t_place v_t_sign v_t_readLetters v_t_readLength v_t_readNumber f_t_state) sz) (wX8_moves cA a_t a_t_state a_t_kept a_t_stack a_t_text v_t_thrown v_t_saved v_t_textLength v_t_place v_t_sign v_t_readLetters v_t_readLength v_t_readNumber o_f_t_state) (fun x => x = r)) 0 0 (va_A (wX8_moves cA a_t a_t_state a_t_kept a_t_stack a_t_text v_t_thrown v_t_saved v_t_textLength v_t_place v_t_sign v_t_readLetters v_t_readLength v_t_readNumber f_t_state) sz) := by
  unfold mX8_moves at hm
  refine mu_ofW (Qc := fun A => mqi (dC, dI) [(cA, .int)] A (wX8_moves cA a_t a_t_state a_t_kept a_t_stack a_t_text v_t_thrown v_t_saved v_t_textLength v_t_place v_t_sign v_t_readLetters v_t_readLength v_t_readNumber o_f_t_state) (fun x => x = r)) (cc := cX8_moves) (maxL := 3) (ret := (some .int)) (own := RX8) (by decide) rfl rfl (Nat.le_of_ble_eq_true rfl) ?_
  intro p e s m args below meth c hx hb hr hts hown hlocks hml hin A hA hP hD hS hK ls hl
  have hl : lv_has ls 3 [(0, .ref a_t), (1, .int p1)] := hl
  have hP : va_P (dC, dI) vwCl [(a_t, .inr (7, [.int v_t_thrown, .ref a_t_state, .ref a_t_kept, .ref a_t_stack, .int v_t_saved, .ref a_t_text, .int v_t_textLength, .int v_t_place, .int v_t_sign, .int v_t_readLetters, .int v_t_readLength, .int v_t_readNumber])), (a_t_state, .inl (cA, 255, .inl f_t_state))] s.heap := hP
  have hD : va_D A [(a_t, .inr (7, [.int v_t_thrown, .ref a_t_state, .ref a_t_kept, .ref a_t_stack, .int v_t_saved, .ref a_t_text, .int v_t_textLength, .int v_t_place, .int v_t_sign, .int v_t_readLetters, .int v_t_readLength, .int v_t_readNumber])), (a_t_state, .inl (cA, 255, .inl f_t_state))] := hD
  refine lv_aload_n hx hb dX8_moves_0 rfl (lv_at hl 0 rfl) ?_
  refine lv_iload_n hx hb dX8_moves_1 rfl (lv_at hl 1 rfl) ?_
  obtain ⟨r2, e2, hm⟩ := bs hm
  try dsimp only at hm
  refine ro_callVe ⟨hx, hb, hml, hown, hts⟩ (kX8_labelOf l dC dI cA a_t a_t_state a_t_kept a_t_stack a_t_text v_t_thrown v_t_saved v_t_textLength v_t_place v_t_sign v_t_readLetters v_t_readLength v_t_readNumber f_t_state p1 r2 e2) (cwV 1 hts gX8_moves_X8_labelOf rfl rfl rfl hdX8_labelOf ⟨Nat.le_of_ble_eq_true rfl, Nat.le_of_ble_eq_true rfl⟩) (hP.sub [0, 1] rfl) hK rfl rfl rfl hl.1 rfl (Nat.le_of_ble_eq_true rfl) dX8_moves_2 ⟨Nat.zero_le _, Nat.zero_le _⟩ ?_
  refine lv_aload_n hx hb dX8_moves_5 rfl (lv_at hl 0 rfl) ?_
  refine lv_iload_n hx hb dX8_moves_6 rfl (lv_at hl 1 rfl) ?_
  refine lv_iconst (v := 1) hx hb dX8_moves_7 (by decide) ?_
  refine lv_iadd hx hb dX8_moves_8 ?_
  obtain ⟨r9, e9, hm⟩ := bs hm
  try dsimp only at hm
  refine ro_callVe ⟨hx, hb, hml, hown, hts⟩ (kX8_labelOf l dC dI cA a_t a_t_state a_t_kept a_t_stack a_t_text v_t_thrown v_t_saved v_t_textLength v_t_place v_t_sign v_t_readLetters v_t_readLength v_t_readNumber f_t_state (p1 + 1) r9 e9) (cwV 1 hts gX8_moves_X8_labelOf rfl rfl rfl hdX8_labelOf ⟨Nat.le_of_ble_eq_true rfl, Nat.le_of_ble_eq_true rfl⟩) (hP.sub [0, 1] rfl) hK rfl rfl rfl hl.1 rfl (Nat.le_of_ble_eq_true rfl) dX8_moves_9 ⟨Nat.zero_le _, Nat.zero_le _⟩ ?_
  refine lv_iadd hx hb dX8_moves_12 ?_
  refine lv_istore_n (lv' := [(2, .int (r2 + r9)), (0, .ref a_t), (1, .int p1)]) hx hb dX8_moves_13 rfl hl (by decide) rfl (fun ls hl => ?_)
  refine lv_aload_n hx hb dX8_moves_14 rfl (lv_at hl 1 rfl) ?_
  refine lv_iload_n hx hb dX8_moves_15 rfl (lv_at hl 2 rfl) ?_
  obtain ⟨f_t_state_16, e16, hm⟩ := bs hm
  try dsimp only at hm
  refine mu_callVv (wr := []) ⟨hx, hb, hml, hown, hts⟩ (kX8_dropHouse l dC dI cA a_t a_t_state a_t_kept a_t_stack a_t_text v_t_thrown v_t_saved v_t_textLength v_t_place v_t_sign v_t_readLetters v_t_readLength v_t_readNumber f_t_state p1 _ f_t_state_16 e16) (cwV 1 hts gX8_moves_X8_dropHouse rfl rfl rfl hdX8_dropHouse ⟨Nat.le_of_ble_eq_true rfl, Nat.le_of_ble_eq_true rfl⟩) hP hD hS hA hK [0, 1] [] rfl rfl rfl rfl (by decide) rfl rfl rfl hl.1 rfl (Nat.le_of_ble_eq_true rfl) dX8_moves_16 ⟨Nat.zero_le _, Nat.zero_le _⟩ (fun H locs hP hD hS => ?_)
  have hP : va_P (dC, dI) vwCl [(a_t, .inr (7, [.int v_t_thrown, .ref a_t_state, .ref a_t_kept, .ref a_t_stack, .int v_t_saved, .ref a_t_text, .int v_t_textLength, .int v_t_place, .int v_t_sign, .int v_t_readLetters, .int v_t_readLength, .int v_t_readNumber])), (a_t_state, .inl (cA, 255, .inl f_t_state_16))] H := hP
  have hD : va_D A [(a_t, .inr (7, [.int v_t_thrown, .ref a_t_state, .ref a_t_kept, .ref a_t_stack, .int v_t_saved, .ref a_t_text, .int v_t_textLength, .int v_t_place, .int v_t_sign, .int v_t_readLetters, .int v_t_readLength, .int v_t_readNumber])), (a_t_state, .inl (cA, 255, .inl f_t_state_16))] := hD
  refine lv_aload_n hx hb dX8_moves_19 rfl (lv_at hl 1 rfl) ?_
  refine va_get (D := (dC, dI)) (ci := 7) (C := RX8) (T := TX8) (N := 12) hx hb hts iX8_moves_X8 hown hK hP 0 rfl rfl 1 (by decide) (hts _ (List.mem_of_getElem? (i := 1) rfl)) (fun _ h9 => h9) rfl dX8_moves_20 ?_
  refine lv_iconst (v := 3) hx hb dX8_moves_23 (by decide) ?_
  refine lv_dup2_11 hx hb dX8_moves_24 rfl rfl ?_
  refine xa_ldK hx hb hK hP 1 0 rfl rfl 3 rfl (by decide) (by decide) dX8_moves_25 ?_
  refine lv_iconst (v := 1) hx hb dX8_moves_26 (by decide) ?_
  refine lv_iadd hx hb dX8_moves_27 ?_
  refine xa_stK hx hb hK hP hD hS 1 0 rfl rfl 3 rfl (by decide) (by decide) dX8_moves_28 (fun H locs hP hD hS => ?_)
  have hP : va_P (dC, dI) vwCl [(a_t, .inr (7, [.int v_t_thrown, .ref a_t_state, .ref a_t_kept, .ref a_t_stack, .int v_t_saved, .ref a_t_text, .int v_t_textLength, .int v_t_place, .int v_t_sign, .int v_t_readLetters, .int v_t_readLength, .int v_t_readNumber])), (a_t_state, .inl (cA, 255, .inl (upd f_t_state_16 3 ((f_t_state_16 3) + 1))))] H := hP
  have hD : va_D A [(a_t, .inr (7, [.int v_t_thrown, .ref a_t_state, .ref a_t_kept, .ref a_t_stack, .int v_t_saved, .ref a_t_text, .int v_t_textLength, .int v_t_place, .int v_t_sign, .int v_t_readLetters, .int v_t_readLength, .int v_t_readNumber])), (a_t_state, .inl (cA, 255, .inl (upd f_t_state_16 3 ((f_t_state_16 3) + 1))))] := hD
  refine lv_iload_n hx hb dX8_moves_29 rfl (lv_at hl 0 rfl) ?_
  cases hm
  exact mu_iret hx hb hr rfl rfl hP hD hS hK [0, 1] rfl (by decide) dX8_moves_30 hlocks
def mX8_moveIn (v_t_saved : Int32) (f_t_state : Nat → Int32) (f_t_stack : Nat → Int32) (p1 : Int32) (p2 : Int32) : Option (Int32 × Int32 × Int32 × (Nat → Int32) × (Nat → Int32)) :=
  ((mX8_whyNotMoved f_t_state p1 p2).bind fun r4 =>
  (if r4 ≤ 0 then
    ((mX8_save v_t_saved f_t_state f_t_stack).bind fun (v_t_saved_20, f_t_stack_20) =>
    ((mX8_findHouse f_t_state (mX8_code p1 p2)).bind fun r30 =>
    ((mX8_moves f_t_state r30).bind fun (r33, f_t_state_33) =>
    some (r33, r4, v_t_saved_20, f_t_state_33, f_t_stack_20))))
  else
    some (0, r4, v_t_saved, f_t_state, f_t_stack)))
abbrev rmX8_moveIn : Room := { frames := 8, cells := 0, slots := 0, locals := 171 }
abbrev wX8_moveIn (cA : ClassId) (a_t a_t_state a_t_kept a_t_stack a_t_text : Nat) (v_t_thrown v_t_saved v_t_textLength v_t_place v_t_sign v_t_readLetters v_t_readLength v_t_readNumber : Int32) (f_t_state f_t_stack : Nat → Int32) : va_W := [(a_t, .inr (7, [.int v_t_thrown, .ref a_t_state, .ref a_t_kept, .ref a_t_stack, .int v_t_saved, .ref a_t_text, .int v_t_textLength, .int v_t_place, .int v_t_sign, .int v_t_readLetters, .int v_t_readLength, .int v_t_readNumber])), (a_t_state, .inl (cA, 255, .inl f_t_state)), (a_t_stack, .inl (cA, 1020, .inl f_t_stack))]
theorem iX8_moveIn_X8 : ∀ w ∈ wsX80, w ∈ wsX8_moveIn := (fun _ h => List.mem_cons_of_mem _ (List.mem_append_right _ h))
theorem hdX8_moveIn : yX8_moveIn.cls = RX8 ∧ yX8_moveIn.cls ≠ "java/lang/invoke/MethodHandle" ∧ yX8_moveIn.cls ≠ "java/lang/invoke/VarHandle" ∧ (parseMethodDescriptor yX8_moveIn.desc).map (fun d => d.parameters.length) = some 2 := by decide +kernel
set_option maxHeartbeats 4000000 in
set_option maxRecDepth 100000 in
theorem kX8_moveIn (l : Launch) (dC : Nat → ClassId) (dI : Nat → Nat → Nat) (cA : ClassId) (a_t a_t_state a_t_kept a_t_stack a_t_text : Nat) (v_t_thrown v_t_saved v_t_textLength v_t_place v_t_sign v_t_readLetters v_t_readLength v_t_readNumber : Int32) (f_t_state f_t_stack : Nat → Int32) (p1 p2 : Int32) (sz : Nat) (r o_v_t_thrown o_v_t_saved : Int32) (o_f_t_state o_f_t_stack : Nat → Int32) (hm : (mX8_moveIn v_t_saved f_t_state f_t_stack p1 p2) = some (r, o_v_t_thrown, o_v_t_saved, o_f_t_state, o_f_t_stack)) : Met l yX8_moveIn wsX8_moveIn rmX8_moveIn (mpc (dC, dI) [(cA, .int)] (wX8_moveIn cA a_t a_t_state a_t_kept a_t_stack a_t_text v_t_thrown v_t_saved v_t_textLength v_t_place v_t_sign v_t_readLetters v_t_readLength v_t_readNumber f_t_state f_t_stack) [.ref a_t, .int p1, .int p2] sz) (mqi (dC, dI) [(cA, .int)] (va_A (wX8_moveIn cA a_t a_t_state a_t_kept a_t_stack a_t_text v_t_thrown v_t_saved v_t_textLength v_t_place v_t_sign v_t_readLetters v_t_readLength v_t_readNumber f_t_state f_t_stack) sz) (wX8_moveIn cA a_t a_t_state a_t_kept a_t_stack a_t_text o_v_t_thrown o_v_t_saved v_t_textLength v_t_place v_t_sign v_t_readLetters v_t_readLength v_t_readNumber o_f_t_state o_f_t_stack) (fun x => x = r)) 0 0 (va_A (wX8_moveIn cA a_t a_t_state a_t_kept a_t_stack a_t_text v_t_thrown v_t_saved v_t_textLength v_t_place v_t_sign v_t_readLetters v_t_readLength v_t_readNumber f_t_state f_t_stack) sz) := by
  unfold mX8_moveIn at hm
  refine mu_ofW (Qc := fun A => mqi (dC, dI) [(cA, .int)] A (wX8_moveIn cA a_t a_t_state a_t_kept a_t_stack a_t_text o_v_t_thrown o_v_t_saved v_t_textLength v_t_place v_t_sign v_t_readLetters v_t_readLength v_t_readNumber o_f_t_state o_f_t_stack) (fun x => x = r)) (cc := cX8_moveIn) (maxL := 3) (ret := (some .int)) (own := RX8) (by decide) rfl rfl (Nat.le_of_ble_eq_true rfl) ?_
  intro p e s m args below meth c hx hb hr hts hown hlocks hml hin A hA hP hD hS hK ls hl
  have hl : lv_has ls 3 [(0, .ref a_t), (1, .int p1), (2, .int p2)] := hl
  have hP : va_P (dC, dI) vwCl [(a_t, .inr (7, [.int v_t_thrown, .ref a_t_state, .ref a_t_kept, .ref a_t_stack, .int v_t_saved, .ref a_t_text, .int v_t_textLength, .int v_t_place, .int v_t_sign, .int v_t_readLetters, .int v_t_readLength, .int v_t_readNumber])), (a_t_state, .inl (cA, 255, .inl f_t_state)), (a_t_stack, .inl (cA, 1020, .inl f_t_stack))] s.heap := hP
  have hD : va_D A [(a_t, .inr (7, [.int v_t_thrown, .ref a_t_state, .ref a_t_kept, .ref a_t_stack, .int v_t_saved, .ref a_t_text, .int v_t_textLength, .int v_t_place, .int v_t_sign, .int v_t_readLetters, .int v_t_readLength, .int v_t_readNumber])), (a_t_state, .inl (cA, 255, .inl f_t_state)), (a_t_stack, .inl (cA, 1020, .inl f_t_stack))] := hD
  refine lv_aload_n hx hb dX8_moveIn_0 rfl (lv_at hl 0 rfl) ?_
  refine lv_aload_n hx hb dX8_moveIn_1 rfl (lv_at hl 0 rfl) ?_
  refine lv_iload_n hx hb dX8_moveIn_2 rfl (lv_at hl 1 rfl) ?_
  refine lv_iload_n hx hb dX8_moveIn_3 rfl (lv_at hl 2 rfl) ?_
  obtain ⟨r4, e4, hm⟩ := bs hm
  try dsimp only at hm
  refine ro_callVe ⟨hx, hb, hml, hown, hts⟩ (kX8_whyNotMoved l dC dI cA a_t a_t_state a_t_kept a_t_stack a_t_text v_t_thrown v_t_saved v_t_textLength v_t_place v_t_sign v_t_readLetters v_t_readLength v_t_readNumber f_t_state p1 p2 r4 e4) (cwV 2 hts gX8_moveIn_X8_whyNotMoved rfl rfl rfl hdX8_whyNotMoved ⟨Nat.le_of_ble_eq_true rfl, Nat.le_of_ble_eq_true rfl⟩) (hP.sub [0, 1] rfl) hK rfl rfl rfl hl.1 rfl (Nat.le_of_ble_eq_true rfl) dX8_moveIn_4 ⟨Nat.zero_le _, Nat.zero_le _⟩ ?_
  refine va_put (D := (dC, dI)) (ci := 7) (C := RX8) (T := TX8) (N := 12) (ty := .int) hx hb hts iX8_moveIn_X8 tyX8 tyX8_ok nmX8 hown hK hP hD hS 0 rfl rfl 0 (by decide) (hts _ (List.mem_of_getElem? (i := 1) rfl)) (fun _ h9 => h9) rfl (by decide +kernel) rfl rfl (Nat.le_of_ble_eq_true rfl) dX8_moveIn_7 (fun H locs hP hD hS => ?_)
  have hP : va_P (dC, dI) vwCl [(a_t, .inr (7, [.int r4, .ref a_t_state, .ref a_t_kept, .ref a_t_stack, .int v_t_saved, .ref a_t_text, .int v_t_textLength, .int v_t_place, .int v_t_sign, .int v_t_readLetters, .int v_t_readLength, .int v_t_readNumber])), (a_t_state, .inl (cA, 255, .inl f_t_state)), (a_t_stack, .inl (cA, 1020, .inl f_t_stack))] H := hP
  have hD : va_D A [(a_t, .inr (7, [.int r4, .ref a_t_state, .ref a_t_kept, .ref a_t_stack, .int v_t_saved, .ref a_t_text, .int v_t_textLength, .int v_t_place, .int v_t_sign, .int v_t_readLetters, .int v_t_readLength, .int v_t_readNumber])), (a_t_state, .inl (cA, 255, .inl f_t_state)), (a_t_stack, .inl (cA, 1020, .inl f_t_stack))] := hD
  refine lv_aload_n hx hb dX8_moveIn_10 rfl (lv_at hl 0 rfl) ?_
  refine va_get (D := (dC, dI)) (ci := 7) (C := RX8) (T := TX8) (N := 12) hx hb hts iX8_moveIn_X8 hown hK hP 0 rfl rfl 0 (by decide) (hts _ (List.mem_of_getElem? (i := 1) rfl)) (fun _ h9 => h9) rfl dX8_moveIn_11 ?_
  refine lv_if_le (tgt := 19) hx hb dX8_moveIn_14 (by decide) (fun c14 => ?_) (fun c14 => ?_)
  · rw [if_pos c14] at hm
    refine lv_aload_n hx hb dX8_moveIn_19 rfl (lv_at hl 0 rfl) ?_
    obtain ⟨⟨v_t_saved_20, f_t_stack_20⟩, e20, hm⟩ := bs hm
    try dsimp only at hm
    refine mu_callVv (wr := []) ⟨hx, hb, hml, hown, hts⟩ (kX8_save l dC dI cA a_t a_t_state a_t_kept a_t_stack a_t_text r4 v_t_saved v_t_textLength v_t_place v_t_sign v_t_readLetters v_t_readLength v_t_readNumber f_t_state f_t_stack _ v_t_saved_20 f_t_stack_20 e20) (cwV 0 hts gX8_moveIn_X8_save rfl rfl rfl hdX8_save ⟨Nat.le_of_ble_eq_true rfl, Nat.le_of_ble_eq_true rfl⟩) hP hD hS hA hK [0, 1, 2] [] rfl rfl rfl rfl (by decide) rfl rfl rfl hl.1 rfl (Nat.le_of_ble_eq_true rfl) dX8_moveIn_20 ⟨Nat.zero_le _, Nat.zero_le _⟩ (fun H locs hP hD hS => ?_)
    have hP : va_P (dC, dI) vwCl [(a_t, .inr (7, [.int r4, .ref a_t_state, .ref a_t_kept, .ref a_t_stack, .int v_t_saved_20, .ref a_t_text, .int v_t_textLength, .int v_t_place, .int v_t_sign, .int v_t_readLetters, .int v_t_readLength, .int v_t_readNumber])), (a_t_state, .inl (cA, 255, .inl f_t_state)), (a_t_stack, .inl (cA, 1020, .inl f_t_stack_20))] H := hP
    have hD : va_D A [(a_t, .inr (7, [.int r4, .ref a_t_state, .ref a_t_kept, .ref a_t_stack, .int v_t_saved_20, .ref a_t_text, .int v_t_textLength, .int v_t_place, .int v_t_sign, .int v_t_readLetters, .int v_t_readLength, .int v_t_readNumber])), (a_t_state, .inl (cA, 255, .inl f_t_state)), (a_t_stack, .inl (cA, 1020, .inl f_t_stack_20))] := hD
    refine lv_aload_n hx hb dX8_moveIn_23 rfl (lv_at hl 0 rfl) ?_
    refine lv_aload_n hx hb dX8_moveIn_24 rfl (lv_at hl 0 rfl) ?_
    refine lv_iload_n hx hb dX8_moveIn_25 rfl (lv_at hl 1 rfl) ?_
    refine lv_iload_n hx hb dX8_moveIn_26 rfl (lv_at hl 2 rfl) ?_
    refine sp_callSe ⟨hx, hb, hml, hown, hts⟩ (kX8_code l p1 p2) (va_cwS 2 hts gX8_moveIn_X8_code rfl rfl rfl hdX8_code.2 ⟨Nat.le_of_ble_eq_true rfl, Nat.le_of_ble_eq_true rfl⟩) rfl hl.1 rfl (Nat.le_of_ble_eq_true rfl) dX8_moveIn_27 ⟨Nat.zero_le _, Nat.zero_le _⟩ ?_
    obtain ⟨r30, e30, hm⟩ := bs hm
    try dsimp only at hm
    refine ro_callVe ⟨hx, hb, hml, hown, hts⟩ (kX8_findHouse l dC dI cA a_t a_t_state a_t_kept a_t_stack a_t_text r4 v_t_saved_20 v_t_textLength v_t_place v_t_sign v_t_readLetters v_t_readLength v_t_readNumber f_t_state (mX8_code p1 p2) r30 e30) (cwV 1 hts gX8_moveIn_X8_findHouse rfl rfl rfl hdX8_findHouse ⟨Nat.le_of_ble_eq_true rfl, Nat.le_of_ble_eq_true rfl⟩) (hP.sub [0, 1] rfl) hK rfl rfl rfl hl.1 rfl (Nat.le_of_ble_eq_true rfl) dX8_moveIn_30 ⟨Nat.zero_le _, Nat.zero_le _⟩ ?_
    obtain ⟨⟨r33, f_t_state_33⟩, e33, hm⟩ := bs hm
    try dsimp only at hm
    refine mu_callVe (wr := [(a_t_stack, .inl (cA, 1020, .inl f_t_stack_20))]) ⟨hx, hb, hml, hown, hts⟩ (kX8_moves l dC dI cA a_t a_t_state a_t_kept a_t_stack a_t_text r4 v_t_saved_20 v_t_textLength v_t_place v_t_sign v_t_readLetters v_t_readLength v_t_readNumber f_t_state r30 _ r33 f_t_state_33 e33) (cwV 1 hts gX8_moveIn_X8_moves rfl rfl rfl hdX8_moves ⟨Nat.le_of_ble_eq_true rfl, Nat.le_of_ble_eq_true rfl⟩) hP hD hS hA hK [0, 1] [2] rfl rfl rfl rfl (by decide) rfl rfl rfl hl.1 rfl (Nat.le_of_ble_eq_true rfl) dX8_moveIn_33 ⟨Nat.zero_le _, Nat.zero_le _⟩ (fun H locs hP hD hS => ?_)
    have hP : va_P (dC, dI) vwCl [(a_t_stack, .inl (cA, 1020, .inl f_t_stack_20)), (a_t, .inr (7, [.int r4, .ref a_t_state, .ref a_t_kept, .ref a_t_stack, .int v_t_saved_20, .ref a_t_text, .int v_t_textLength, .int v_t_place, .int v_t_sign, .int v_t_readLetters, .int v_t_readLength, .int v_t_readNumber])), (a_t_state, .inl (cA, 255, .inl f_t_state_33))] H := hP
    have hD : va_D A [(a_t_stack, .inl (cA, 1020, .inl f_t_stack_20)), (a_t, .inr (7, [.int r4, .ref a_t_state, .ref a_t_kept, .ref a_t_stack, .int v_t_saved_20, .ref a_t_text, .int v_t_textLength, .int v_t_place, .int v_t_sign, .int v_t_readLetters, .int v_t_readLength, .int v_t_readNumber])), (a_t_state, .inl (cA, 255, .inl f_t_state_33))] := hD
    cases hm
    exact mu_iret hx hb hr rfl rfl hP hD hS hK [1, 2, 0] rfl (by decide) dX8_moveIn_36 hlocks
  · rw [if_neg c14] at hm
    refine lv_iconst (v := 0) hx hb dX8_moveIn_17 (by decide) ?_
    cases hm
    exact mu_iret hx hb hr rfl rfl hP hD hS hK [0, 1, 2] rfl (by decide) dX8_moveIn_18 hlocks
def mX8_whyNotEvicted (f_t_state : Nat → Int32) (p1 : Int32) (p2 : Int32) : Option (Int32) :=
  (if (mX8_isPrefix p1 p2 0) = 0 then
    some 1
  else
    ((mX8_isInTown f_t_state (mX8_code p1 p2)).bind fun r19 =>
    (if r19 = 0 then
      some 2
    else
      ((mX8_findHouse f_t_state (mX8_code p1 p2)).bind fun r27 =>
      some (if r27 = (-1) then (0 : Int32) else 2)))))
abbrev rmX8_whyNotEvicted : Room := { frames := 6, cells := 0, slots := 0, locals := 126 }
abbrev wX8_whyNotEvicted (cA : ClassId) (a_t a_t_state a_t_kept a_t_stack a_t_text : Nat) (v_t_thrown v_t_saved v_t_textLength v_t_place v_t_sign v_t_readLetters v_t_readLength v_t_readNumber : Int32) (f_t_state : Nat → Int32) : va_W := [(a_t, .inr (7, [.int v_t_thrown, .ref a_t_state, .ref a_t_kept, .ref a_t_stack, .int v_t_saved, .ref a_t_text, .int v_t_textLength, .int v_t_place, .int v_t_sign, .int v_t_readLetters, .int v_t_readLength, .int v_t_readNumber])), (a_t_state, .inl (cA, 255, .inl f_t_state))]
theorem hdX8_whyNotEvicted : yX8_whyNotEvicted.cls = RX8 ∧ yX8_whyNotEvicted.cls ≠ "java/lang/invoke/MethodHandle" ∧ yX8_whyNotEvicted.cls ≠ "java/lang/invoke/VarHandle" ∧ (parseMethodDescriptor yX8_whyNotEvicted.desc).map (fun d => d.parameters.length) = some 2 := by decide +kernel
set_option maxHeartbeats 4000000 in
set_option maxRecDepth 100000 in
theorem kX8_whyNotEvicted (l : Launch) (dC : Nat → ClassId) (dI : Nat → Nat → Nat) (cA : ClassId) (a_t a_t_state a_t_kept a_t_stack a_t_text : Nat) (v_t_thrown v_t_saved v_t_textLength v_t_place v_t_sign v_t_readLetters v_t_readLength v_t_readNumber : Int32) (f_t_state : Nat → Int32) (p1 p2 r : Int32) (hm : (mX8_whyNotEvicted f_t_state p1 p2) = some r) : Met l yX8_whyNotEvicted wsX8_whyNotEvicted rmX8_whyNotEvicted (rpc (dC, dI) [(cA, .int)] (wX8_whyNotEvicted cA a_t a_t_state a_t_kept a_t_stack a_t_text v_t_thrown v_t_saved v_t_textLength v_t_place v_t_sign v_t_readLetters v_t_readLength v_t_readNumber f_t_state) [.ref a_t, .int p1, .int p2]) (vp_Si (fun x => x = r)) 0 0 (fun _ => False) := by
  unfold mX8_whyNotEvicted at hm
  refine ro_ofW (cc := cX8_whyNotEvicted) (maxL := 4) (ret := (some .int)) (own := RX8) (by decide) rfl rfl (Nat.le_of_ble_eq_true rfl) ?_
  intro p e s m args below meth c hx hb hr hts hown hlocks hml hP hK ls hl
  have hl : lv_has ls 4 [(0, .ref a_t), (1, .int p1), (2, .int p2)] := hl
  have hP : va_P (dC, dI) vwCl [(a_t, .inr (7, [.int v_t_thrown, .ref a_t_state, .ref a_t_kept, .ref a_t_stack, .int v_t_saved, .ref a_t_text, .int v_t_textLength, .int v_t_place, .int v_t_sign, .int v_t_readLetters, .int v_t_readLength, .int v_t_readNumber])), (a_t_state, .inl (cA, 255, .inl f_t_state))] s.heap := hP
  refine lv_iload_n hx hb dX8_whyNotEvicted_0 rfl (lv_at hl 1 rfl) ?_
  refine lv_iload_n hx hb dX8_whyNotEvicted_1 rfl (lv_at hl 2 rfl) ?_
  refine lv_iconst (v := 0) hx hb dX8_whyNotEvicted_2 (by decide) ?_
  refine sp_callSz ⟨hx, hb, hml, hown, hts⟩ (kX8_isPrefix l p1 p2 0) (va_cwS 3 hts gX8_whyNotEvicted_X8_isPrefix rfl rfl rfl hdX8_isPrefix.2 ⟨Nat.le_of_ble_eq_true rfl, Nat.le_of_ble_eq_true rfl⟩) rfl hl.1 rfl (Nat.le_of_ble_eq_true rfl) dX8_whyNotEvicted_3 ⟨Nat.zero_le _, Nat.zero_le _⟩ (fun hb3 => ?_)
  refine lv_if_ne (tgt := 11) hx hb dX8_whyNotEvicted_6 (by decide) (fun c6 => ?_) (fun c6 => ?_)
  · rw [if_neg c6] at hm
    refine lv_iload_n hx hb dX8_whyNotEvicted_11 rfl (lv_at hl 1 rfl) ?_
    refine lv_iload_n hx hb dX8_whyNotEvicted_12 rfl (lv_at hl 2 rfl) ?_
    refine sp_callSe ⟨hx, hb, hml, hown, hts⟩ (kX8_code l p1 p2) (va_cwS 2 hts gX8_whyNotEvicted_X8_code rfl rfl rfl hdX8_code.2 ⟨Nat.le_of_ble_eq_true rfl, Nat.le_of_ble_eq_true rfl⟩) rfl hl.1 rfl (Nat.le_of_ble_eq_true rfl) dX8_whyNotEvicted_13 ⟨Nat.zero_le _, Nat.zero_le _⟩ ?_
    refine lv_istore_n (lv' := [(3, .int (mX8_code p1 p2)), (0, .ref a_t), (1, .int p1), (2, .int p2)]) hx hb dX8_whyNotEvicted_16 rfl hl (by decide) rfl (fun ls hl => ?_)
    refine lv_aload_n hx hb dX8_whyNotEvicted_17 rfl (lv_at hl 1 rfl) ?_
    refine lv_iload_n hx hb dX8_whyNotEvicted_18 rfl (lv_at hl 0 rfl) ?_
    obtain ⟨r19, e19, hm⟩ := bs hm
    try dsimp only at hm
    refine ro_callVz ⟨hx, hb, hml, hown, hts⟩ (kX8_isInTown l dC dI cA a_t a_t_state a_t_kept a_t_stack a_t_text v_t_thrown v_t_saved v_t_textLength v_t_place v_t_sign v_t_readLetters v_t_readLength v_t_readNumber f_t_state (mX8_code p1 p2) r19 e19) (cwV 1 hts gX8_whyNotEvicted_X8_isInTown rfl rfl rfl hdX8_isInTown ⟨Nat.le_of_ble_eq_true rfl, Nat.le_of_ble_eq_true rfl⟩) (hP.sub [0, 1] rfl) hK rfl rfl rfl hl.1 rfl (Nat.le_of_ble_eq_true rfl) dX8_whyNotEvicted_19 ⟨Nat.zero_le _, Nat.zero_le _⟩ (fun hb19 => ?_)
    refine lv_if_eq (tgt := 34) hx hb dX8_whyNotEvicted_22 (by decide) (fun c22 => ?_) (fun c22 => ?_)
    · rw [if_pos c22] at hm
      refine lv_iconst (v := 2) hx hb dX8_whyNotEvicted_34 (by decide) ?_
      refine lv_goto (tgt := 39) hx hb dX8_whyNotEvicted_35 (by decide) ?_
      cases hm
      exact ro_iret hx hb hr rfl rfl dX8_whyNotEvicted_39 hlocks
    · rw [if_neg c22] at hm
      refine lv_aload_n hx hb dX8_whyNotEvicted_25 rfl (lv_at hl 1 rfl) ?_
      refine lv_iload_n hx hb dX8_whyNotEvicted_26 rfl (lv_at hl 0 rfl) ?_
      obtain ⟨r27, e27, hm⟩ := bs hm
      try dsimp only at hm
      refine ro_callVe ⟨hx, hb, hml, hown, hts⟩ (kX8_findHouse l dC dI cA a_t a_t_state a_t_kept a_t_stack a_t_text v_t_thrown v_t_saved v_t_textLength v_t_place v_t_sign v_t_readLetters v_t_readLength v_t_readNumber f_t_state (mX8_code p1 p2) r27 e27) (cwV 1 hts gX8_whyNotEvicted_X8_findHouse rfl rfl rfl hdX8_findHouse ⟨Nat.le_of_ble_eq_true rfl, Nat.le_of_ble_eq_true rfl⟩) (hP.sub [0, 1] rfl) hK rfl rfl rfl hl.1 rfl (Nat.le_of_ble_eq_true rfl) dX8_whyNotEvicted_27 ⟨Nat.zero_le _, Nat.zero_le _⟩ ?_
      refine lv_iconst (v := (-1)) hx hb dX8_whyNotEvicted_30 (by decide) ?_
      refine lv_icmp_eq (tgt := 38) hx hb dX8_whyNotEvicted_31 (by decide) (fun c31 => ?_) (fun c31 => ?_)
      · try simp only [if_pos c31] at hm
        refine lv_iconst (v := 0) hx hb dX8_whyNotEvicted_38 (by decide) ?_
        cases hm
        exact ro_iret hx hb hr rfl rfl dX8_whyNotEvicted_39 hlocks
      · try simp only [if_neg c31] at hm
        refine lv_iconst (v := 2) hx hb dX8_whyNotEvicted_34 (by decide) ?_
        refine lv_goto (tgt := 39) hx hb dX8_whyNotEvicted_35 (by decide) ?_
        cases hm
        exact ro_iret hx hb hr rfl rfl dX8_whyNotEvicted_39 hlocks
  · rw [if_pos c6] at hm
    refine lv_iconst (v := 1) hx hb dX8_whyNotEvicted_9 (by decide) ?_
    cases hm
    exact ro_iret hx hb hr rfl rfl dX8_whyNotEvicted_10 hlocks
def mX8_evicts (f_t_state : Nat → Int32) (p1 : Int32) : Option (Int32 × (Nat → Int32)) :=
  ((mX8_addHouse f_t_state p1).bind fun f_t_state_2 =>
  ((mX8_findHouse (upd f_t_state_2 4 ((f_t_state_2 4) + 1)) p1).bind fun r18 =>
  ((mX8_labelOf (upd f_t_state_2 4 ((f_t_state_2 4) + 1)) (r18 + 1)).bind fun r23 =>
  some (r23, (upd f_t_state_2 4 ((f_t_state_2 4) + 1))))))
abbrev rmX8_evicts : Room := { frames := 6, cells := 0, slots := 0, locals := 125 }
abbrev wX8_evicts (cA : ClassId) (a_t a_t_state a_t_kept a_t_stack a_t_text : Nat) (v_t_thrown v_t_saved v_t_textLength v_t_place v_t_sign v_t_readLetters v_t_readLength v_t_readNumber : Int32) (f_t_state : Nat → Int32) : va_W := [(a_t, .inr (7, [.int v_t_thrown, .ref a_t_state, .ref a_t_kept, .ref a_t_stack, .int v_t_saved, .ref a_t_text, .int v_t_textLength, .int v_t_place, .int v_t_sign, .int v_t_readLetters, .int v_t_readLength, .int v_t_readNumber])), (a_t_state, .inl (cA, 255, .inl f_t_state))]
theorem iX8_evicts_X8 : ∀ w ∈ wsX80, w ∈ wsX8_evicts := (fun _ h => List.mem_cons_of_mem _ (List.mem_append_right _ h))
theorem hdX8_evicts : yX8_evicts.cls = RX8 ∧ yX8_evicts.cls ≠ "java/lang/invoke/MethodHandle" ∧ yX8_evicts.cls ≠ "java/lang/invoke/VarHandle" ∧ (parseMethodDescriptor yX8_evicts.desc).map (fun d => d.parameters.length) = some 1 := by decide +kernel
set_option maxHeartbeats 4000000 in
set_option maxRecDepth 100000 in
theorem kX8_evicts (l : Launch) (dC : Nat → ClassId) (dI : Nat → Nat → Nat) (cA : ClassId) (a_t a_t_state a_t_kept a_t_stack a_t_text : Nat) (v_t_thrown v_t_saved v_t_textLength v_t_place v_t_sign v_t_readLetters v_t_readLength v_t_readNumber : Int32) (f_t_state : Nat → Int32) (p1 : Int32) (sz : Nat) (r : Int32) (o_f_t_state : Nat → Int32) (hm : (mX8_evicts f_t_state p1) = some (r, o_f_t_state)) : Met l yX8_evicts wsX8_evicts rmX8_evicts (mpc (dC, dI) [(cA, .int)] (wX8_evicts cA a_t a_t_state a_t_kept a_t_stack a_t_text v_t_thrown v_t_saved v_t_textLength v_t_place v_t_sign v_t_readLetters v_t_readLength v_t_readNumber f_t_state) [.ref a_t, .int p1] sz) (mqi (dC, dI) [(cA, .int)] (va_A (wX8_evicts cA a_t a_t_state a_t_kept a_t_stack a_t_text v_t_thrown v_t_saved v_t_textLength v_t_place v_t_sign v_t_readLetters v_t_readLength v_t_readNumber f_t_state) sz) (wX8_evicts cA a_t a_t_state a_t_kept a_t_stack a_t_text v_t_thrown v_t_saved v_t_textLength v_t_place v_t_sign v_t_readLetters v_t_readLength v_t_readNumber o_f_t_state) (fun x => x = r)) 0 0 (va_A (wX8_evicts cA a_t a_t_state a_t_kept a_t_stack a_t_text v_t_thrown v_t_saved v_t_textLength v_t_place v_t_sign v_t_readLetters v_t_readLength v_t_readNumber f_t_state) sz) := by
  unfold mX8_evicts at hm
  refine mu_ofW (Qc := fun A => mqi (dC, dI) [(cA, .int)] A (wX8_evicts cA a_t a_t_state a_t_kept a_t_stack a_t_text v_t_thrown v_t_saved v_t_textLength v_t_place v_t_sign v_t_readLetters v_t_readLength v_t_readNumber o_f_t_state) (fun x => x = r)) (cc := cX8_evicts) (maxL := 2) (ret := (some .int)) (own := RX8) (by decide) rfl rfl (Nat.le_of_ble_eq_true rfl) ?_
  intro p e s m args below meth c hx hb hr hts hown hlocks hml hin A hA hP hD hS hK ls hl
  have hl : lv_has ls 2 [(0, .ref a_t), (1, .int p1)] := hl
  have hP : va_P (dC, dI) vwCl [(a_t, .inr (7, [.int v_t_thrown, .ref a_t_state, .ref a_t_kept, .ref a_t_stack, .int v_t_saved, .ref a_t_text, .int v_t_textLength, .int v_t_place, .int v_t_sign, .int v_t_readLetters, .int v_t_readLength, .int v_t_readNumber])), (a_t_state, .inl (cA, 255, .inl f_t_state))] s.heap := hP
  have hD : va_D A [(a_t, .inr (7, [.int v_t_thrown, .ref a_t_state, .ref a_t_kept, .ref a_t_stack, .int v_t_saved, .ref a_t_text, .int v_t_textLength, .int v_t_place, .int v_t_sign, .int v_t_readLetters, .int v_t_readLength, .int v_t_readNumber])), (a_t_state, .inl (cA, 255, .inl f_t_state))] := hD
  refine lv_aload_n hx hb dX8_evicts_0 rfl (lv_at hl 0 rfl) ?_
  refine lv_iload_n hx hb dX8_evicts_1 rfl (lv_at hl 1 rfl) ?_
  obtain ⟨f_t_state_2, e2, hm⟩ := bs hm
  try dsimp only at hm
  refine mu_callVv (wr := []) ⟨hx, hb, hml, hown, hts⟩ (kX8_addHouse l dC dI cA a_t a_t_state a_t_kept a_t_stack a_t_text v_t_thrown v_t_saved v_t_textLength v_t_place v_t_sign v_t_readLetters v_t_readLength v_t_readNumber f_t_state p1 _ f_t_state_2 e2) (cwV 1 hts gX8_evicts_X8_addHouse rfl rfl rfl hdX8_addHouse ⟨Nat.le_of_ble_eq_true rfl, Nat.le_of_ble_eq_true rfl⟩) hP hD hS hA hK [0, 1] [] rfl rfl rfl rfl (by decide) rfl rfl rfl hl.1 rfl (Nat.le_of_ble_eq_true rfl) dX8_evicts_2 ⟨Nat.zero_le _, Nat.zero_le _⟩ (fun H locs hP hD hS => ?_)
  have hP : va_P (dC, dI) vwCl [(a_t, .inr (7, [.int v_t_thrown, .ref a_t_state, .ref a_t_kept, .ref a_t_stack, .int v_t_saved, .ref a_t_text, .int v_t_textLength, .int v_t_place, .int v_t_sign, .int v_t_readLetters, .int v_t_readLength, .int v_t_readNumber])), (a_t_state, .inl (cA, 255, .inl f_t_state_2))] H := hP
  have hD : va_D A [(a_t, .inr (7, [.int v_t_thrown, .ref a_t_state, .ref a_t_kept, .ref a_t_stack, .int v_t_saved, .ref a_t_text, .int v_t_textLength, .int v_t_place, .int v_t_sign, .int v_t_readLetters, .int v_t_readLength, .int v_t_readNumber])), (a_t_state, .inl (cA, 255, .inl f_t_state_2))] := hD
  refine lv_aload_n hx hb dX8_evicts_5 rfl (lv_at hl 0 rfl) ?_
  refine va_get (D := (dC, dI)) (ci := 7) (C := RX8) (T := TX8) (N := 12) hx hb hts iX8_evicts_X8 hown hK hP 0 rfl rfl 1 (by decide) (hts _ (List.mem_of_getElem? (i := 1) rfl)) (fun _ h9 => h9) rfl dX8_evicts_6 ?_
  refine lv_iconst (v := 4) hx hb dX8_evicts_9 (by decide) ?_
  refine lv_dup2_11 hx hb dX8_evicts_10 rfl rfl ?_
  refine xa_ldK hx hb hK hP 1 0 rfl rfl 4 rfl (by decide) (by decide) dX8_evicts_11 ?_
  refine lv_iconst (v := 1) hx hb dX8_evicts_12 (by decide) ?_
  refine lv_iadd hx hb dX8_evicts_13 ?_
  refine xa_stK hx hb hK hP hD hS 1 0 rfl rfl 4 rfl (by decide) (by decide) dX8_evicts_14 (fun H locs hP hD hS => ?_)
  have hP : va_P (dC, dI) vwCl [(a_t, .inr (7, [.int v_t_thrown, .ref a_t_state, .ref a_t_kept, .ref a_t_stack, .int v_t_saved, .ref a_t_text, .int v_t_textLength, .int v_t_place, .int v_t_sign, .int v_t_readLetters, .int v_t_readLength, .int v_t_readNumber])), (a_t_state, .inl (cA, 255, .inl (upd f_t_state_2 4 ((f_t_state_2 4) + 1))))] H := hP
  have hD : va_D A [(a_t, .inr (7, [.int v_t_thrown, .ref a_t_state, .ref a_t_kept, .ref a_t_stack, .int v_t_saved, .ref a_t_text, .int v_t_textLength, .int v_t_place, .int v_t_sign, .int v_t_readLetters, .int v_t_readLength, .int v_t_readNumber])), (a_t_state, .inl (cA, 255, .inl (upd f_t_state_2 4 ((f_t_state_2 4) + 1))))] := hD
  refine lv_aload_n hx hb dX8_evicts_15 rfl (lv_at hl 0 rfl) ?_
  refine lv_aload_n hx hb dX8_evicts_16 rfl (lv_at hl 0 rfl) ?_
  refine lv_iload_n hx hb dX8_evicts_17 rfl (lv_at hl 1 rfl) ?_
  obtain ⟨r18, e18, hm⟩ := bs hm
  try dsimp only at hm
  refine ro_callVe ⟨hx, hb, hml, hown, hts⟩ (kX8_findHouse l dC dI cA a_t a_t_state a_t_kept a_t_stack a_t_text v_t_thrown v_t_saved v_t_textLength v_t_place v_t_sign v_t_readLetters v_t_readLength v_t_readNumber (upd f_t_state_2 4 ((f_t_state_2 4) + 1)) p1 r18 e18) (cwV 1 hts gX8_evicts_X8_findHouse rfl rfl rfl hdX8_findHouse ⟨Nat.le_of_ble_eq_true rfl, Nat.le_of_ble_eq_true rfl⟩) (hP.sub [0, 1] rfl) hK rfl rfl rfl hl.1 rfl (Nat.le_of_ble_eq_true rfl) dX8_evicts_18 ⟨Nat.zero_le _, Nat.zero_le _⟩ ?_
  refine lv_iconst (v := 1) hx hb dX8_evicts_21 (by decide) ?_
  refine lv_iadd hx hb dX8_evicts_22 ?_
  obtain ⟨r23, e23, hm⟩ := bs hm
  try dsimp only at hm
  refine ro_callVe ⟨hx, hb, hml, hown, hts⟩ (kX8_labelOf l dC dI cA a_t a_t_state a_t_kept a_t_stack a_t_text v_t_thrown v_t_saved v_t_textLength v_t_place v_t_sign v_t_readLetters v_t_readLength v_t_readNumber (upd f_t_state_2 4 ((f_t_state_2 4) + 1)) (r18 + 1) r23 e23) (cwV 1 hts gX8_evicts_X8_labelOf rfl rfl rfl hdX8_labelOf ⟨Nat.le_of_ble_eq_true rfl, Nat.le_of_ble_eq_true rfl⟩) (hP.sub [0, 1] rfl) hK rfl rfl rfl hl.1 rfl (Nat.le_of_ble_eq_true rfl) dX8_evicts_23 ⟨Nat.zero_le _, Nat.zero_le _⟩ ?_
  cases hm
  exact mu_iret hx hb hr rfl rfl hP hD hS hK [0, 1] rfl (by decide) dX8_evicts_26 hlocks
def mX8_evict (v_t_saved : Int32) (f_t_state : Nat → Int32) (f_t_stack : Nat → Int32) (p1 : Int32) (p2 : Int32) : Option (Int32 × Int32 × Int32 × (Nat → Int32) × (Nat → Int32)) :=
  ((mX8_whyNotEvicted f_t_state p1 p2).bind fun r4 =>
  (if r4 ≤ 0 then
    ((mX8_save v_t_saved f_t_state f_t_stack).bind fun (v_t_saved_20, f_t_stack_20) =>
    ((mX8_evicts f_t_state (mX8_code p1 p2)).bind fun (r29, f_t_state_29) =>
    some (r29, r4, v_t_saved_20, f_t_state_29, f_t_stack_20)))
  else
    some (0, r4, v_t_saved, f_t_state, f_t_stack)))
abbrev rmX8_evict : Room := { frames := 7, cells := 0, slots := 0, locals := 149 }
abbrev wX8_evict (cA : ClassId) (a_t a_t_state a_t_kept a_t_stack a_t_text : Nat) (v_t_thrown v_t_saved v_t_textLength v_t_place v_t_sign v_t_readLetters v_t_readLength v_t_readNumber : Int32) (f_t_state f_t_stack : Nat → Int32) : va_W := [(a_t, .inr (7, [.int v_t_thrown, .ref a_t_state, .ref a_t_kept, .ref a_t_stack, .int v_t_saved, .ref a_t_text, .int v_t_textLength, .int v_t_place, .int v_t_sign, .int v_t_readLetters, .int v_t_readLength, .int v_t_readNumber])), (a_t_state, .inl (cA, 255, .inl f_t_state)), (a_t_stack, .inl (cA, 1020, .inl f_t_stack))]
theorem iX8_evict_X8 : ∀ w ∈ wsX80, w ∈ wsX8_evict := (fun _ h => List.mem_cons_of_mem _ (List.mem_append_right _ h))
theorem hdX8_evict : yX8_evict.cls = RX8 ∧ yX8_evict.cls ≠ "java/lang/invoke/MethodHandle" ∧ yX8_evict.cls ≠ "java/lang/invoke/VarHandle" ∧ (parseMethodDescriptor yX8_evict.desc).map (fun d => d.parameters.length) = some 2 := by decide +kernel
set_option maxHeartbeats 4000000 in
set_option maxRecDepth 100000 in
theorem kX8_evict (l : Launch) (dC : Nat → ClassId) (dI : Nat → Nat → Nat) (cA : ClassId) (a_t a_t_state a_t_kept a_t_stack a_t_text : Nat) (v_t_thrown v_t_saved v_t_textLength v_t_place v_t_sign v_t_readLetters v_t_readLength v_t_readNumber : Int32) (f_t_state f_t_stack : Nat → Int32) (p1 p2 : Int32) (sz : Nat) (r o_v_t_thrown o_v_t_saved : Int32) (o_f_t_state o_f_t_stack : Nat → Int32) (hm : (mX8_evict v_t_saved f_t_state f_t_stack p1 p2) = some (r, o_v_t_thrown, o_v_t_saved, o_f_t_state, o_f_t_stack)) : Met l yX8_evict wsX8_evict rmX8_evict (mpc (dC, dI) [(cA, .int)] (wX8_evict cA a_t a_t_state a_t_kept a_t_stack a_t_text v_t_thrown v_t_saved v_t_textLength v_t_place v_t_sign v_t_readLetters v_t_readLength v_t_readNumber f_t_state f_t_stack) [.ref a_t, .int p1, .int p2] sz) (mqi (dC, dI) [(cA, .int)] (va_A (wX8_evict cA a_t a_t_state a_t_kept a_t_stack a_t_text v_t_thrown v_t_saved v_t_textLength v_t_place v_t_sign v_t_readLetters v_t_readLength v_t_readNumber f_t_state f_t_stack) sz) (wX8_evict cA a_t a_t_state a_t_kept a_t_stack a_t_text o_v_t_thrown o_v_t_saved v_t_textLength v_t_place v_t_sign v_t_readLetters v_t_readLength v_t_readNumber o_f_t_state o_f_t_stack) (fun x => x = r)) 0 0 (va_A (wX8_evict cA a_t a_t_state a_t_kept a_t_stack a_t_text v_t_thrown v_t_saved v_t_textLength v_t_place v_t_sign v_t_readLetters v_t_readLength v_t_readNumber f_t_state f_t_stack) sz) := by
  unfold mX8_evict at hm
  refine mu_ofW (Qc := fun A => mqi (dC, dI) [(cA, .int)] A (wX8_evict cA a_t a_t_state a_t_kept a_t_stack a_t_text o_v_t_thrown o_v_t_saved v_t_textLength v_t_place v_t_sign v_t_readLetters v_t_readLength v_t_readNumber o_f_t_state o_f_t_stack) (fun x => x = r)) (cc := cX8_evict) (maxL := 3) (ret := (some .int)) (own := RX8) (by decide) rfl rfl (Nat.le_of_ble_eq_true rfl) ?_
  intro p e s m args below meth c hx hb hr hts hown hlocks hml hin A hA hP hD hS hK ls hl
  have hl : lv_has ls 3 [(0, .ref a_t), (1, .int p1), (2, .int p2)] := hl
  have hP : va_P (dC, dI) vwCl [(a_t, .inr (7, [.int v_t_thrown, .ref a_t_state, .ref a_t_kept, .ref a_t_stack, .int v_t_saved, .ref a_t_text, .int v_t_textLength, .int v_t_place, .int v_t_sign, .int v_t_readLetters, .int v_t_readLength, .int v_t_readNumber])), (a_t_state, .inl (cA, 255, .inl f_t_state)), (a_t_stack, .inl (cA, 1020, .inl f_t_stack))] s.heap := hP
  have hD : va_D A [(a_t, .inr (7, [.int v_t_thrown, .ref a_t_state, .ref a_t_kept, .ref a_t_stack, .int v_t_saved, .ref a_t_text, .int v_t_textLength, .int v_t_place, .int v_t_sign, .int v_t_readLetters, .int v_t_readLength, .int v_t_readNumber])), (a_t_state, .inl (cA, 255, .inl f_t_state)), (a_t_stack, .inl (cA, 1020, .inl f_t_stack))] := hD
  refine lv_aload_n hx hb dX8_evict_0 rfl (lv_at hl 0 rfl) ?_
  refine lv_aload_n hx hb dX8_evict_1 rfl (lv_at hl 0 rfl) ?_
  refine lv_iload_n hx hb dX8_evict_2 rfl (lv_at hl 1 rfl) ?_
  refine lv_iload_n hx hb dX8_evict_3 rfl (lv_at hl 2 rfl) ?_
  obtain ⟨r4, e4, hm⟩ := bs hm
  try dsimp only at hm
  refine ro_callVe ⟨hx, hb, hml, hown, hts⟩ (kX8_whyNotEvicted l dC dI cA a_t a_t_state a_t_kept a_t_stack a_t_text v_t_thrown v_t_saved v_t_textLength v_t_place v_t_sign v_t_readLetters v_t_readLength v_t_readNumber f_t_state p1 p2 r4 e4) (cwV 2 hts gX8_evict_X8_whyNotEvicted rfl rfl rfl hdX8_whyNotEvicted ⟨Nat.le_of_ble_eq_true rfl, Nat.le_of_ble_eq_true rfl⟩) (hP.sub [0, 1] rfl) hK rfl rfl rfl hl.1 rfl (Nat.le_of_ble_eq_true rfl) dX8_evict_4 ⟨Nat.zero_le _, Nat.zero_le _⟩ ?_
  refine va_put (D := (dC, dI)) (ci := 7) (C := RX8) (T := TX8) (N := 12) (ty := .int) hx hb hts iX8_evict_X8 tyX8 tyX8_ok nmX8 hown hK hP hD hS 0 rfl rfl 0 (by decide) (hts _ (List.mem_of_getElem? (i := 1) rfl)) (fun _ h9 => h9) rfl (by decide +kernel) rfl rfl (Nat.le_of_ble_eq_true rfl) dX8_evict_7 (fun H locs hP hD hS => ?_)
  have hP : va_P (dC, dI) vwCl [(a_t, .inr (7, [.int r4, .ref a_t_state, .ref a_t_kept, .ref a_t_stack, .int v_t_saved, .ref a_t_text, .int v_t_textLength, .int v_t_place, .int v_t_sign, .int v_t_readLetters, .int v_t_readLength, .int v_t_readNumber])), (a_t_state, .inl (cA, 255, .inl f_t_state)), (a_t_stack, .inl (cA, 1020, .inl f_t_stack))] H := hP
  have hD : va_D A [(a_t, .inr (7, [.int r4, .ref a_t_state, .ref a_t_kept, .ref a_t_stack, .int v_t_saved, .ref a_t_text, .int v_t_textLength, .int v_t_place, .int v_t_sign, .int v_t_readLetters, .int v_t_readLength, .int v_t_readNumber])), (a_t_state, .inl (cA, 255, .inl f_t_state)), (a_t_stack, .inl (cA, 1020, .inl f_t_stack))] := hD
  refine lv_aload_n hx hb dX8_evict_10 rfl (lv_at hl 0 rfl) ?_
  refine va_get (D := (dC, dI)) (ci := 7) (C := RX8) (T := TX8) (N := 12) hx hb hts iX8_evict_X8 hown hK hP 0 rfl rfl 0 (by decide) (hts _ (List.mem_of_getElem? (i := 1) rfl)) (fun _ h9 => h9) rfl dX8_evict_11 ?_
  refine lv_if_le (tgt := 19) hx hb dX8_evict_14 (by decide) (fun c14 => ?_) (fun c14 => ?_)
  · rw [if_pos c14] at hm
    refine lv_aload_n hx hb dX8_evict_19 rfl (lv_at hl 0 rfl) ?_
    obtain ⟨⟨v_t_saved_20, f_t_stack_20⟩, e20, hm⟩ := bs hm
    try dsimp only at hm
    refine mu_callVv (wr := []) ⟨hx, hb, hml, hown, hts⟩ (kX8_save l dC dI cA a_t a_t_state a_t_kept a_t_stack a_t_text r4 v_t_saved v_t_textLength v_t_place v_t_sign v_t_readLetters v_t_readLength v_t_readNumber f_t_state f_t_stack _ v_t_saved_20 f_t_stack_20 e20) (cwV 0 hts gX8_evict_X8_save rfl rfl rfl hdX8_save ⟨Nat.le_of_ble_eq_true rfl, Nat.le_of_ble_eq_true rfl⟩) hP hD hS hA hK [0, 1, 2] [] rfl rfl rfl rfl (by decide) rfl rfl rfl hl.1 rfl (Nat.le_of_ble_eq_true rfl) dX8_evict_20 ⟨Nat.zero_le _, Nat.zero_le _⟩ (fun H locs hP hD hS => ?_)
    have hP : va_P (dC, dI) vwCl [(a_t, .inr (7, [.int r4, .ref a_t_state, .ref a_t_kept, .ref a_t_stack, .int v_t_saved_20, .ref a_t_text, .int v_t_textLength, .int v_t_place, .int v_t_sign, .int v_t_readLetters, .int v_t_readLength, .int v_t_readNumber])), (a_t_state, .inl (cA, 255, .inl f_t_state)), (a_t_stack, .inl (cA, 1020, .inl f_t_stack_20))] H := hP
    have hD : va_D A [(a_t, .inr (7, [.int r4, .ref a_t_state, .ref a_t_kept, .ref a_t_stack, .int v_t_saved_20, .ref a_t_text, .int v_t_textLength, .int v_t_place, .int v_t_sign, .int v_t_readLetters, .int v_t_readLength, .int v_t_readNumber])), (a_t_state, .inl (cA, 255, .inl f_t_state)), (a_t_stack, .inl (cA, 1020, .inl f_t_stack_20))] := hD
    refine lv_aload_n hx hb dX8_evict_23 rfl (lv_at hl 0 rfl) ?_
    refine lv_iload_n hx hb dX8_evict_24 rfl (lv_at hl 1 rfl) ?_
    refine lv_iload_n hx hb dX8_evict_25 rfl (lv_at hl 2 rfl) ?_
    refine sp_callSe ⟨hx, hb, hml, hown, hts⟩ (kX8_code l p1 p2) (va_cwS 2 hts gX8_evict_X8_code rfl rfl rfl hdX8_code.2 ⟨Nat.le_of_ble_eq_true rfl, Nat.le_of_ble_eq_true rfl⟩) rfl hl.1 rfl (Nat.le_of_ble_eq_true rfl) dX8_evict_26 ⟨Nat.zero_le _, Nat.zero_le _⟩ ?_
    obtain ⟨⟨r29, f_t_state_29⟩, e29, hm⟩ := bs hm
    try dsimp only at hm
    refine mu_callVe (wr := [(a_t_stack, .inl (cA, 1020, .inl f_t_stack_20))]) ⟨hx, hb, hml, hown, hts⟩ (kX8_evicts l dC dI cA a_t a_t_state a_t_kept a_t_stack a_t_text r4 v_t_saved_20 v_t_textLength v_t_place v_t_sign v_t_readLetters v_t_readLength v_t_readNumber f_t_state (mX8_code p1 p2) _ r29 f_t_state_29 e29) (cwV 1 hts gX8_evict_X8_evicts rfl rfl rfl hdX8_evicts ⟨Nat.le_of_ble_eq_true rfl, Nat.le_of_ble_eq_true rfl⟩) hP hD hS hA hK [0, 1] [2] rfl rfl rfl rfl (by decide) rfl rfl rfl hl.1 rfl (Nat.le_of_ble_eq_true rfl) dX8_evict_29 ⟨Nat.zero_le _, Nat.zero_le _⟩ (fun H locs hP hD hS => ?_)
    have hP : va_P (dC, dI) vwCl [(a_t_stack, .inl (cA, 1020, .inl f_t_stack_20)), (a_t, .inr (7, [.int r4, .ref a_t_state, .ref a_t_kept, .ref a_t_stack, .int v_t_saved_20, .ref a_t_text, .int v_t_textLength, .int v_t_place, .int v_t_sign, .int v_t_readLetters, .int v_t_readLength, .int v_t_readNumber])), (a_t_state, .inl (cA, 255, .inl f_t_state_29))] H := hP
    have hD : va_D A [(a_t_stack, .inl (cA, 1020, .inl f_t_stack_20)), (a_t, .inr (7, [.int r4, .ref a_t_state, .ref a_t_kept, .ref a_t_stack, .int v_t_saved_20, .ref a_t_text, .int v_t_textLength, .int v_t_place, .int v_t_sign, .int v_t_readLetters, .int v_t_readLength, .int v_t_readNumber])), (a_t_state, .inl (cA, 255, .inl f_t_state_29))] := hD
    cases hm
    exact mu_iret hx hb hr rfl rfl hP hD hS hK [1, 2, 0] rfl (by decide) dX8_evict_32 hlocks
  · rw [if_neg c14] at hm
    refine lv_iconst (v := 0) hx hb dX8_evict_17 (by decide) ?_
    cases hm
    exact mu_iret hx hb hr rfl rfl hP hD hS hK [0, 1, 2] rfl (by decide) dX8_evict_18 hlocks
def mX8_compressed_L4  : Nat → (Int32) → (Int32) → (Nat → Int32) → Option (Int32 × Int32 × (Nat → Int32))
  | 0, _, _, _ => none
  | n + 1, x1_4, x2_4, f_t_state_L4 =>
    (if (f_t_state_L4 2) ≤ x2_4 then
      some (x1_4, x2_4, f_t_state_L4)
    else
      ((mX8_whyNoMove f_t_state_L4 x2_4).bind fun r16 =>
      (if r16 = 0 then
        ((mX8_moves f_t_state_L4 x2_4).bind fun (r24, f_t_state_24) =>
        mX8_compressed_L4 n (x1_4 + 1) 0 f_t_state_24)
      else
        mX8_compressed_L4 n x1_4 (x2_4 + 1) f_t_state_L4)))
def mX8_compressed (f_t_state : Nat → Int32) : Option (Int32 × (Nat → Int32)) :=
  ((mX8_compressed_L4 FU 0 0 f_t_state).bind fun (y1_4, y2_4, f_t_state_E4) =>
  some (y1_4, f_t_state_E4))
abbrev rmX8_compressed : Room := { frames := 7, cells := 0, slots := 0, locals := 148 }
abbrev wX8_compressed (cA : ClassId) (a_t a_t_state a_t_kept a_t_stack a_t_text : Nat) (v_t_thrown v_t_saved v_t_textLength v_t_place v_t_sign v_t_readLetters v_t_readLength v_t_readNumber : Int32) (f_t_state : Nat → Int32) : va_W := [(a_t, .inr (7, [.int v_t_thrown, .ref a_t_state, .ref a_t_kept, .ref a_t_stack, .int v_t_saved, .ref a_t_text, .int v_t_textLength, .int v_t_place, .int v_t_sign, .int v_t_readLetters, .int v_t_readLength, .int v_t_readNumber])), (a_t_state, .inl (cA, 255, .inl f_t_state))]
theorem iX8_compressed_X8 : ∀ w ∈ wsX80, w ∈ wsX8_compressed := (fun _ h => List.mem_cons_of_mem _ (List.mem_append_right _ h))
theorem hdX8_compressed : yX8_compressed.cls = RX8 ∧ yX8_compressed.cls ≠ "java/lang/invoke/MethodHandle" ∧ yX8_compressed.cls ≠ "java/lang/invoke/VarHandle" ∧ (parseMethodDescriptor yX8_compressed.desc).map (fun d => d.parameters.length) = some 0 := by decide +kernel
set_option maxHeartbeats 4000000 in
set_option maxRecDepth 100000 in
theorem wX8_compressed_L4 {p : Program} {l : Launch} {e : Env} {s : State} {m : MethodId} {args : Array Value} {below : List Frame} {meth : Method} {c : Code} {Q : State → Prop} {A : Nat → Prop} (dC : Nat → ClassId) (dI : Nat → Nat → Nat) (cA : ClassId) (a_t a_t_state a_t_kept a_t_stack a_t_text : Nat) (v_t_thrown v_t_saved v_t_textLength v_t_place v_t_sign v_t_readLetters v_t_readLength v_t_readNumber y1_4 y2_4 : Int32) (f_t_state_E4 : Nat → Int32) (hx : p.tables.exec = Jvm.exec) (hb : c.code = cX8_compressed) (hml : c.maxLocals = 3) (hown : s.vm.findClass RX8 = some m.cls) (hts : ∀ w ∈ wsX8_compressed, w.before args s = true) (hA : ∀ q, s.heap.size ≤ q → A q) (hK : va_K (dC, dI) vwCl [(cA, .int)] s)
    (kk0 : ∀ (H : Heap) (locs : List Loc), va_P (dC, dI) vwCl [(a_t, .inr (7, [.int v_t_thrown, .ref a_t_state, .ref a_t_kept, .ref a_t_stack, .int v_t_saved, .ref a_t_text, .int v_t_textLength, .int v_t_place, .int v_t_sign, .int v_t_readLetters, .int v_t_readLength, .int v_t_readNumber])), (a_t_state, .inl (cA, 255, .inl f_t_state_E4))] H → va_D A [(a_t, .inr (7, [.int v_t_thrown, .ref a_t_state, .ref a_t_kept, .ref a_t_stack, .int v_t_saved, .ref a_t_text, .int v_t_textLength, .int v_t_place, .int v_t_sign, .int v_t_readLetters, .int v_t_readLength, .int v_t_readNumber])), (a_t_state, .inl (cA, 255, .inl f_t_state_E4))] → va_S A s.heap H locs → ∀ ls : Array Slot, lv_has ls 3 [(0, .ref a_t), (1, .int y1_4), (2, .int y2_4)] → W p l e (headSpec wsX8_compressed rmX8_compressed).room s m args below meth c H locs 0 0 Q (F0 m 42 ls [])) :
    ∀ (n : Nat) (x1_4 x2_4 : Int32) (f_t_state_L4 : Nat → Int32), mX8_compressed_L4  n x1_4 x2_4 f_t_state_L4 = some (y1_4, y2_4, f_t_state_E4) → ∀ (H : Heap) (locs : List Loc), va_P (dC, dI) vwCl [(a_t, .inr (7, [.int v_t_thrown, .ref a_t_state, .ref a_t_kept, .ref a_t_stack, .int v_t_saved, .ref a_t_text, .int v_t_textLength, .int v_t_place, .int v_t_sign, .int v_t_readLetters, .int v_t_readLength, .int v_t_readNumber])), (a_t_state, .inl (cA, 255, .inl f_t_state_L4))] H → va_D A [(a_t, .inr (7, [.int v_t_thrown, .ref a_t_state, .ref a_t_kept, .ref a_t_stack, .int v_t_saved, .ref a_t_text, .int v_t_textLength, .int v_t_place, .int v_t_sign, .int v_t_readLetters, .int v_t_readLength, .int v_t_readNumber])), (a_t_state, .inl (cA, 255, .inl f_t_state_L4))] → va_S A s.heap H locs → ∀ ls : Array Slot, lv_has ls 3 [(0, .ref a_t), (1, .int x1_4), (2, .int x2_4)] → W p l e (headSpec wsX8_compressed rmX8_compressed).room s m args below meth c H locs 0 0 Q (F0 m 4 ls []) := by
  intro n
  induction n with
  | zero =>
    intro x1_4 x2_4 f_t_state_L4 hm
    cases hm
  | succ n ih =>
    intro x1_4 x2_4 f_t_state_L4 hm H locs hP hD hS ls hl
    rw [mX8_compressed_L4] at hm
    refine lv_iload_n hx hb dX8_compressed_4 rfl (lv_at hl 2 rfl) ?_
    refine lv_aload_n hx hb dX8_compressed_5 rfl (lv_at hl 0 rfl) ?_
    refine va_get (D := (dC, dI)) (ci := 7) (C := RX8) (T := TX8) (N := 12) hx hb hts iX8_compressed_X8 hown hK hP 0 rfl rfl 1 (by decide) (hts _ (List.mem_of_getElem? (i := 1) rfl)) (fun _ h9 => h9) rfl dX8_compressed_6 ?_
    refine lv_iconst (v := 2) hx hb dX8_compressed_9 (by decide) ?_
    refine xa_ldK hx hb hK hP 1 0 rfl rfl 2 rfl (by decide) (by decide) dX8_compressed_10 ?_
    refine lv_icmp_ge (tgt := 42) hx hb dX8_compressed_11 (by decide) (fun c11 => ?_) (fun c11 => ?_)
    · rw [if_pos c11] at hm
      cases hm
      exact kk0 _ _ (hP.sub [0, 1] rfl) (hD.sub [0, 1] (by decide) rfl) hS _ (lv_sub hl [0, 1, 2] rfl)
    · rw [if_neg c11] at hm
      refine lv_aload_n hx hb dX8_compressed_14 rfl (lv_at hl 0 rfl) ?_
      refine lv_iload_n hx hb dX8_compressed_15 rfl (lv_at hl 2 rfl) ?_
      obtain ⟨r16, e16, hm⟩ := bs hm
      try dsimp only at hm
      refine ro_callVe ⟨hx, hb, hml, hown, hts⟩ (kX8_whyNoMove l dC dI cA a_t a_t_state a_t_kept a_t_stack a_t_text v_t_thrown v_t_saved v_t_textLength v_t_place v_t_sign v_t_readLetters v_t_readLength v_t_readNumber f_t_state_L4 x2_4 r16 e16) (cwV 1 hts gX8_compressed_X8_whyNoMove rfl rfl rfl hdX8_whyNoMove ⟨Nat.le_of_ble_eq_true rfl, Nat.le_of_ble_eq_true rfl⟩) (hP.sub [0, 1] rfl) hK rfl rfl rfl hl.1 rfl (Nat.le_of_ble_eq_true rfl) dX8_compressed_16 ⟨Nat.zero_le _, Nat.zero_le _⟩ ?_
      refine lv_if_ne (tgt := 36) hx hb dX8_compressed_19 (by decide) (fun c19 => ?_) (fun c19 => ?_)
      · rw [if_neg c19] at hm
        refine lv_iinc (v := (x2_4 + 1)) (lv' := [(2, .int (x2_4 + 1)), (0, .ref a_t), (1, .int x1_4)]) hx hb dX8_compressed_36 hl (k := 2) rfl rfl (by decide) rfl (fun ls hl => ?_)
        refine lv_goto (tgt := 4) hx hb dX8_compressed_39 (by decide) ?_
        exact ih _ _ _ hm _ _ (hP.sub [0, 1] rfl) (hD.sub [0, 1] (by decide) rfl) hS _ (lv_sub hl [1, 2, 0] rfl)
      · rw [if_pos c19] at hm
        refine lv_aload_n hx hb dX8_compressed_22 rfl (lv_at hl 0 rfl) ?_
        refine lv_iload_n hx hb dX8_compressed_23 rfl (lv_at hl 2 rfl) ?_
        obtain ⟨⟨r24, f_t_state_24⟩, e24, hm⟩ := bs hm
        try dsimp only at hm
        refine mu_callVe (wr := []) ⟨hx, hb, hml, hown, hts⟩ (kX8_moves l dC dI cA a_t a_t_state a_t_kept a_t_stack a_t_text v_t_thrown v_t_saved v_t_textLength v_t_place v_t_sign v_t_readLetters v_t_readLength v_t_readNumber f_t_state_L4 x2_4 _ r24 f_t_state_24 e24) (cwV 1 hts gX8_compressed_X8_moves rfl rfl rfl hdX8_moves ⟨Nat.le_of_ble_eq_true rfl, Nat.le_of_ble_eq_true rfl⟩) hP hD hS hA hK [0, 1] [] rfl rfl rfl rfl (by decide) rfl rfl rfl hl.1 rfl (Nat.le_of_ble_eq_true rfl) dX8_compressed_24 ⟨Nat.zero_le _, Nat.zero_le _⟩ (fun H locs hP hD hS => ?_)
        have hP : va_P (dC, dI) vwCl [(a_t, .inr (7, [.int v_t_thrown, .ref a_t_state, .ref a_t_kept, .ref a_t_stack, .int v_t_saved, .ref a_t_text, .int v_t_textLength, .int v_t_place, .int v_t_sign, .int v_t_readLetters, .int v_t_readLength, .int v_t_readNumber])), (a_t_state, .inl (cA, 255, .inl f_t_state_24))] H := hP
        have hD : va_D A [(a_t, .inr (7, [.int v_t_thrown, .ref a_t_state, .ref a_t_kept, .ref a_t_stack, .int v_t_saved, .ref a_t_text, .int v_t_textLength, .int v_t_place, .int v_t_sign, .int v_t_readLetters, .int v_t_readLength, .int v_t_readNumber])), (a_t_state, .inl (cA, 255, .inl f_t_state_24))] := hD
        refine lv_pop hx hb dX8_compressed_27 rfl ?_
        refine lv_iinc (v := (x1_4 + 1)) (lv' := [(1, .int (x1_4 + 1)), (0, .ref a_t), (2, .int x2_4)]) hx hb dX8_compressed_28 hl (k := 1) rfl rfl (by decide) rfl (fun ls hl => ?_)
        refine lv_iconst (v := 0) hx hb dX8_compressed_31 (by decide) ?_
        refine lv_istore_n (lv' := [(2, .int 0), (1, .int (x1_4 + 1)), (0, .ref a_t)]) hx hb dX8_compressed_32 rfl hl (by decide) rfl (fun ls hl => ?_)
        refine lv_goto (tgt := 4) hx hb dX8_compressed_33 (by decide) ?_
        exact ih _ _ _ hm _ _ (hP.sub [0, 1] rfl) (hD.sub [0, 1] (by decide) rfl) hS _ (lv_sub hl [2, 1, 0] rfl)
set_option maxHeartbeats 4000000 in
set_option maxRecDepth 100000 in
theorem kX8_compressed (l : Launch) (dC : Nat → ClassId) (dI : Nat → Nat → Nat) (cA : ClassId) (a_t a_t_state a_t_kept a_t_stack a_t_text : Nat) (v_t_thrown v_t_saved v_t_textLength v_t_place v_t_sign v_t_readLetters v_t_readLength v_t_readNumber : Int32) (f_t_state : Nat → Int32) (sz : Nat) (r : Int32) (o_f_t_state : Nat → Int32) (hm : (mX8_compressed f_t_state) = some (r, o_f_t_state)) : Met l yX8_compressed wsX8_compressed rmX8_compressed (mpc (dC, dI) [(cA, .int)] (wX8_compressed cA a_t a_t_state a_t_kept a_t_stack a_t_text v_t_thrown v_t_saved v_t_textLength v_t_place v_t_sign v_t_readLetters v_t_readLength v_t_readNumber f_t_state) [.ref a_t] sz) (mqi (dC, dI) [(cA, .int)] (va_A (wX8_compressed cA a_t a_t_state a_t_kept a_t_stack a_t_text v_t_thrown v_t_saved v_t_textLength v_t_place v_t_sign v_t_readLetters v_t_readLength v_t_readNumber f_t_state) sz) (wX8_compressed cA a_t a_t_state a_t_kept a_t_stack a_t_text v_t_thrown v_t_saved v_t_textLength v_t_place v_t_sign v_t_readLetters v_t_readLength v_t_readNumber o_f_t_state) (fun x => x = r)) 0 0 (va_A (wX8_compressed cA a_t a_t_state a_t_kept a_t_stack a_t_text v_t_thrown v_t_saved v_t_textLength v_t_place v_t_sign v_t_readLetters v_t_readLength v_t_readNumber f_t_state) sz) := by
  unfold mX8_compressed at hm
  refine mu_ofW (Qc := fun A => mqi (dC, dI) [(cA, .int)] A (wX8_compressed cA a_t a_t_state a_t_kept a_t_stack a_t_text v_t_thrown v_t_saved v_t_textLength v_t_place v_t_sign v_t_readLetters v_t_readLength v_t_readNumber o_f_t_state) (fun x => x = r)) (cc := cX8_compressed) (maxL := 3) (ret := (some .int)) (own := RX8) (by decide) rfl rfl (Nat.le_of_ble_eq_true rfl) ?_
  intro p e s m args below meth c hx hb hr hts hown hlocks hml hin A hA hP hD hS hK ls hl
  have hl : lv_has ls 3 [(0, .ref a_t)] := hl
  have hP : va_P (dC, dI) vwCl [(a_t, .inr (7, [.int v_t_thrown, .ref a_t_state, .ref a_t_kept, .ref a_t_stack, .int v_t_saved, .ref a_t_text, .int v_t_textLength, .int v_t_place, .int v_t_sign, .int v_t_readLetters, .int v_t_readLength, .int v_t_readNumber])), (a_t_state, .inl (cA, 255, .inl f_t_state))] s.heap := hP
  have hD : va_D A [(a_t, .inr (7, [.int v_t_thrown, .ref a_t_state, .ref a_t_kept, .ref a_t_stack, .int v_t_saved, .ref a_t_text, .int v_t_textLength, .int v_t_place, .int v_t_sign, .int v_t_readLetters, .int v_t_readLength, .int v_t_readNumber])), (a_t_state, .inl (cA, 255, .inl f_t_state))] := hD
  refine lv_iconst (v := 0) hx hb dX8_compressed_0 (by decide) ?_
  refine lv_istore_n (lv' := [(1, .int 0), (0, .ref a_t)]) hx hb dX8_compressed_1 rfl hl (by decide) rfl (fun ls hl => ?_)
  refine lv_iconst (v := 0) hx hb dX8_compressed_2 (by decide) ?_
  refine lv_istore_n (lv' := [(2, .int 0), (1, .int 0), (0, .ref a_t)]) hx hb dX8_compressed_3 rfl hl (by decide) rfl (fun ls hl => ?_)
  obtain ⟨⟨y1_4, y2_4, f_t_state_E4⟩, e4, hm⟩ := bs hm
  try dsimp only at hm
  refine wX8_compressed_L4 dC dI cA a_t a_t_state a_t_kept a_t_stack a_t_text v_t_thrown v_t_saved v_t_textLength v_t_place v_t_sign v_t_readLetters v_t_readLength v_t_readNumber  y1_4 y2_4 f_t_state_E4 hx hb hml hown hts hA hK ?_ FU _ _ _ e4 _ _ (hP.sub [0, 1] rfl) (hD.sub [0, 1] (by decide) rfl) hS _ (lv_sub hl [2, 1, 0] rfl)
  · intro H locs hP hD hS ls hl
    refine lv_iload_n hx hb dX8_compressed_42 rfl (lv_at hl 1 rfl) ?_
    cases hm
    exact mu_iret hx hb hr rfl rfl hP hD hS hK [0, 1] rfl (by decide) dX8_compressed_43 hlocks
def mX8_compress (v_t_saved : Int32) (f_t_state : Nat → Int32) (f_t_stack : Nat → Int32) : Option (Int32 × Int32 × Int32 × (Nat → Int32) × (Nat → Int32)) :=
  ((mX8_save v_t_saved f_t_state f_t_stack).bind fun (v_t_saved_6, f_t_stack_6) =>
  ((mX8_compressed f_t_state).bind fun (r10, f_t_state_10) =>
  some (r10, 0, v_t_saved_6, f_t_state_10, f_t_stack_6)))
abbrev rmX8_compress : Room := { frames := 8, cells := 0, slots := 0, locals := 170 }
abbrev wX8_compress (cA : ClassId) (a_t a_t_state a_t_kept a_t_stack a_t_text : Nat) (v_t_thrown v_t_saved v_t_textLength v_t_place v_t_sign v_t_readLetters v_t_readLength v_t_readNumber : Int32) (f_t_state f_t_stack : Nat → Int32) : va_W := [(a_t, .inr (7, [.int v_t_thrown, .ref a_t_state, .ref a_t_kept, .ref a_t_stack, .int v_t_saved, .ref a_t_text, .int v_t_textLength, .int v_t_place, .int v_t_sign, .int v_t_readLetters, .int v_t_readLength, .int v_t_readNumber])), (a_t_state, .inl (cA, 255, .inl f_t_state)), (a_t_stack, .inl (cA, 1020, .inl f_t_stack))]
theorem iX8_compress_X8 : ∀ w ∈ wsX80, w ∈ wsX8_compress := (fun _ h => List.mem_cons_of_mem _ (List.mem_append_right _ h))
theorem hdX8_compress : yX8_compress.cls = RX8 ∧ yX8_compress.cls ≠ "java/lang/invoke/MethodHandle" ∧ yX8_compress.cls ≠ "java/lang/invoke/VarHandle" ∧ (parseMethodDescriptor yX8_compress.desc).map (fun d => d.parameters.length) = some 0 := by decide +kernel
set_option maxHeartbeats 4000000 in
set_option maxRecDepth 100000 in
theorem kX8_compress (l : Launch) (dC : Nat → ClassId) (dI : Nat → Nat → Nat) (cA : ClassId) (a_t a_t_state a_t_kept a_t_stack a_t_text : Nat) (v_t_thrown v_t_saved v_t_textLength v_t_place v_t_sign v_t_readLetters v_t_readLength v_t_readNumber : Int32) (f_t_state f_t_stack : Nat → Int32) (sz : Nat) (r o_v_t_thrown o_v_t_saved : Int32) (o_f_t_state o_f_t_stack : Nat → Int32) (hm : (mX8_compress v_t_saved f_t_state f_t_stack) = some (r, o_v_t_thrown, o_v_t_saved, o_f_t_state, o_f_t_stack)) : Met l yX8_compress wsX8_compress rmX8_compress (mpc (dC, dI) [(cA, .int)] (wX8_compress cA a_t a_t_state a_t_kept a_t_stack a_t_text v_t_thrown v_t_saved v_t_textLength v_t_place v_t_sign v_t_readLetters v_t_readLength v_t_readNumber f_t_state f_t_stack) [.ref a_t] sz) (mqi (dC, dI) [(cA, .int)] (va_A (wX8_compress cA a_t a_t_state a_t_kept a_t_stack a_t_text v_t_thrown v_t_saved v_t_textLength v_t_place v_t_sign v_t_readLetters v_t_readLength v_t_readNumber f_t_state f_t_stack) sz) (wX8_compress cA a_t a_t_state a_t_kept a_t_stack a_t_text o_v_t_thrown o_v_t_saved v_t_textLength v_t_place v_t_sign v_t_readLetters v_t_readLength v_t_readNumber o_f_t_state o_f_t_stack) (fun x => x = r)) 0 0 (va_A (wX8_compress cA a_t a_t_state a_t_kept a_t_stack a_t_text v_t_thrown v_t_saved v_t_textLength v_t_place v_t_sign v_t_readLetters v_t_readLength v_t_readNumber f_t_state f_t_stack) sz) := by
  unfold mX8_compress at hm
  refine mu_ofW (Qc := fun A => mqi (dC, dI) [(cA, .int)] A (wX8_compress cA a_t a_t_state a_t_kept a_t_stack a_t_text o_v_t_thrown o_v_t_saved v_t_textLength v_t_place v_t_sign v_t_readLetters v_t_readLength v_t_readNumber o_f_t_state o_f_t_stack) (fun x => x = r)) (cc := cX8_compress) (maxL := 1) (ret := (some .int)) (own := RX8) (by decide) rfl rfl (Nat.le_of_ble_eq_true rfl) ?_
  intro p e s m args below meth c hx hb hr hts hown hlocks hml hin A hA hP hD hS hK ls hl
  have hl : lv_has ls 1 [(0, .ref a_t)] := hl
  have hP : va_P (dC, dI) vwCl [(a_t, .inr (7, [.int v_t_thrown, .ref a_t_state, .ref a_t_kept, .ref a_t_stack, .int v_t_saved, .ref a_t_text, .int v_t_textLength, .int v_t_place, .int v_t_sign, .int v_t_readLetters, .int v_t_readLength, .int v_t_readNumber])), (a_t_state, .inl (cA, 255, .inl f_t_state)), (a_t_stack, .inl (cA, 1020, .inl f_t_stack))] s.heap := hP
  have hD : va_D A [(a_t, .inr (7, [.int v_t_thrown, .ref a_t_state, .ref a_t_kept, .ref a_t_stack, .int v_t_saved, .ref a_t_text, .int v_t_textLength, .int v_t_place, .int v_t_sign, .int v_t_readLetters, .int v_t_readLength, .int v_t_readNumber])), (a_t_state, .inl (cA, 255, .inl f_t_state)), (a_t_stack, .inl (cA, 1020, .inl f_t_stack))] := hD
  refine lv_aload_n hx hb dX8_compress_0 rfl (lv_at hl 0 rfl) ?_
  refine lv_iconst (v := 0) hx hb dX8_compress_1 (by decide) ?_
  refine va_put (D := (dC, dI)) (ci := 7) (C := RX8) (T := TX8) (N := 12) (ty := .int) hx hb hts iX8_compress_X8 tyX8 tyX8_ok nmX8 hown hK hP hD hS 0 rfl rfl 0 (by decide) (hts _ (List.mem_of_getElem? (i := 1) rfl)) (fun _ h9 => h9) rfl (by decide +kernel) rfl rfl (Nat.le_of_ble_eq_true rfl) dX8_compress_2 (fun H locs hP hD hS => ?_)
  have hP : va_P (dC, dI) vwCl [(a_t, .inr (7, [.int 0, .ref a_t_state, .ref a_t_kept, .ref a_t_stack, .int v_t_saved, .ref a_t_text, .int v_t_textLength, .int v_t_place, .int v_t_sign, .int v_t_readLetters, .int v_t_readLength, .int v_t_readNumber])), (a_t_state, .inl (cA, 255, .inl f_t_state)), (a_t_stack, .inl (cA, 1020, .inl f_t_stack))] H := hP
  have hD : va_D A [(a_t, .inr (7, [.int 0, .ref a_t_state, .ref a_t_kept, .ref a_t_stack, .int v_t_saved, .ref a_t_text, .int v_t_textLength, .int v_t_place, .int v_t_sign, .int v_t_readLetters, .int v_t_readLength, .int v_t_readNumber])), (a_t_state, .inl (cA, 255, .inl f_t_state)), (a_t_stack, .inl (cA, 1020, .inl f_t_stack))] := hD
  refine lv_aload_n hx hb dX8_compress_5 rfl (lv_at hl 0 rfl) ?_
  obtain ⟨⟨v_t_saved_6, f_t_stack_6⟩, e6, hm⟩ := bs hm
  try dsimp only at hm
  refine mu_callVv (wr := []) ⟨hx, hb, hml, hown, hts⟩ (kX8_save l dC dI cA a_t a_t_state a_t_kept a_t_stack a_t_text 0 v_t_saved v_t_textLength v_t_place v_t_sign v_t_readLetters v_t_readLength v_t_readNumber f_t_state f_t_stack _ v_t_saved_6 f_t_stack_6 e6) (cwV 0 hts gX8_compress_X8_save rfl rfl rfl hdX8_save ⟨Nat.le_of_ble_eq_true rfl, Nat.le_of_ble_eq_true rfl⟩) hP hD hS hA hK [0, 1, 2] [] rfl rfl rfl rfl (by decide) rfl rfl rfl hl.1 rfl (Nat.le_of_ble_eq_true rfl) dX8_compress_6 ⟨Nat.zero_le _, Nat.zero_le _⟩ (fun H locs hP hD hS => ?_)
  have hP : va_P (dC, dI) vwCl [(a_t, .inr (7, [.int 0, .ref a_t_state, .ref a_t_kept, .ref a_t_stack, .int v_t_saved_6, .ref a_t_text, .int v_t_textLength, .int v_t_place, .int v_t_sign, .int v_t_readLetters, .int v_t_readLength, .int v_t_readNumber])), (a_t_state, .inl (cA, 255, .inl f_t_state)), (a_t_stack, .inl (cA, 1020, .inl f_t_stack_6))] H := hP
  have hD : va_D A [(a_t, .inr (7, [.int 0, .ref a_t_state, .ref a_t_kept, .ref a_t_stack, .int v_t_saved_6, .ref a_t_text, .int v_t_textLength, .int v_t_place, .int v_t_sign, .int v_t_readLetters, .int v_t_readLength, .int v_t_readNumber])), (a_t_state, .inl (cA, 255, .inl f_t_state)), (a_t_stack, .inl (cA, 1020, .inl f_t_stack_6))] := hD
  refine lv_aload_n hx hb dX8_compress_9 rfl (lv_at hl 0 rfl) ?_
  obtain ⟨⟨r10, f_t_state_10⟩, e10, hm⟩ := bs hm
  try dsimp only at hm
  refine mu_callVe (wr := [(a_t_stack, .inl (cA, 1020, .inl f_t_stack_6))]) ⟨hx, hb, hml, hown, hts⟩ (kX8_compressed l dC dI cA a_t a_t_state a_t_kept a_t_stack a_t_text 0 v_t_saved_6 v_t_textLength v_t_place v_t_sign v_t_readLetters v_t_readLength v_t_readNumber f_t_state _ r10 f_t_state_10 e10) (cwV 0 hts gX8_compress_X8_compressed rfl rfl rfl hdX8_compressed ⟨Nat.le_of_ble_eq_true rfl, Nat.le_of_ble_eq_true rfl⟩) hP hD hS hA hK [0, 1] [2] rfl rfl rfl rfl (by decide) rfl rfl rfl hl.1 rfl (Nat.le_of_ble_eq_true rfl) dX8_compress_10 ⟨Nat.zero_le _, Nat.zero_le _⟩ (fun H locs hP hD hS => ?_)
  have hP : va_P (dC, dI) vwCl [(a_t_stack, .inl (cA, 1020, .inl f_t_stack_6)), (a_t, .inr (7, [.int 0, .ref a_t_state, .ref a_t_kept, .ref a_t_stack, .int v_t_saved_6, .ref a_t_text, .int v_t_textLength, .int v_t_place, .int v_t_sign, .int v_t_readLetters, .int v_t_readLength, .int v_t_readNumber])), (a_t_state, .inl (cA, 255, .inl f_t_state_10))] H := hP
  have hD : va_D A [(a_t_stack, .inl (cA, 1020, .inl f_t_stack_6)), (a_t, .inr (7, [.int 0, .ref a_t_state, .ref a_t_kept, .ref a_t_stack, .int v_t_saved_6, .ref a_t_text, .int v_t_textLength, .int v_t_place, .int v_t_sign, .int v_t_readLetters, .int v_t_readLength, .int v_t_readNumber])), (a_t_state, .inl (cA, 255, .inl f_t_state_10))] := hD
  cases hm
  exact mu_iret hx hb hr rfl rfl hP hD hS hK [1, 2, 0] rfl (by decide) dX8_compress_13 hlocks
def mX8_expanded_L16 (x2_16 : Int32) : Nat → (Int32) → (Int32) → (Nat → Int32) → Option (Int32 × Int32 × (Nat → Int32))
  | 0, _, _, _ => none
  | n + 1, x1_16, x3_16, f_t_state_L16 =>
    ((mX8_name f_t_state_L16 x2_16).bind fun r19 =>
    (if (mX8_lengthOf r19) ≤ x3_16 then
      some (x1_16, x3_16, f_t_state_L16)
    else
      ((mX8_name f_t_state_L16 x2_16).bind fun r31 =>
      ((mX8_findHouse f_t_state_L16 (mX8_shortened r31 x3_16)).bind fun r38 =>
      (if r38 = (-1) then
        ((mX8_name f_t_state_L16 x2_16).bind fun r48 =>
        ((mX8_evicts f_t_state_L16 (mX8_shortened r48 x3_16)).bind fun (r55, f_t_state_55) =>
        mX8_expanded_L16 x2_16 n (x1_16 + 1) (x3_16 + 1) f_t_state_55))
      else
        mX8_expanded_L16 x2_16 n x1_16 (x3_16 + 1) f_t_state_L16)))))
def mX8_expanded_L4  : Nat → (Int32) → (Int32) → (Nat → Int32) → Option (Int32 × Int32 × (Nat → Int32))
  | 0, _, _, _ => none
  | n + 1, x1_4, x2_4, f_t_state_L4 =>
    (if (f_t_state_L4 1) ≤ x2_4 then
      some (x1_4, x2_4, f_t_state_L4)
    else
      ((mX8_expanded_L16 x2_4 FU x1_4 1 f_t_state_L4).bind fun (y1_16, y3_16, f_t_state_E16) =>
      mX8_expanded_L4 n y1_16 (x2_4 + 1) f_t_state_E16))
def mX8_expanded (f_t_state : Nat → Int32) : Option (Int32 × (Nat → Int32)) :=
  ((mX8_expanded_L4 FU 0 0 f_t_state).bind fun (y1_4, y2_4, f_t_state_E4) =>
  some (y1_4, f_t_state_E4))
abbrev rmX8_expanded : Room := { frames := 7, cells := 0, slots := 0, locals := 146 }
abbrev wX8_expanded (cA : ClassId) (a_t a_t_state a_t_kept a_t_stack a_t_text : Nat) (v_t_thrown v_t_saved v_t_textLength v_t_place v_t_sign v_t_readLetters v_t_readLength v_t_readNumber : Int32) (f_t_state : Nat → Int32) : va_W := [(a_t, .inr (7, [.int v_t_thrown, .ref a_t_state, .ref a_t_kept, .ref a_t_stack, .int v_t_saved, .ref a_t_text, .int v_t_textLength, .int v_t_place, .int v_t_sign, .int v_t_readLetters, .int v_t_readLength, .int v_t_readNumber])), (a_t_state, .inl (cA, 255, .inl f_t_state))]
theorem iX8_expanded_X8 : ∀ w ∈ wsX80, w ∈ wsX8_expanded := (fun _ h => List.mem_cons_of_mem _ (List.mem_append_right _ h))
theorem hdX8_expanded : yX8_expanded.cls = RX8 ∧ yX8_expanded.cls ≠ "java/lang/invoke/MethodHandle" ∧ yX8_expanded.cls ≠ "java/lang/invoke/VarHandle" ∧ (parseMethodDescriptor yX8_expanded.desc).map (fun d => d.parameters.length) = some 0 := by decide +kernel
set_option maxHeartbeats 4000000 in
set_option maxRecDepth 100000 in
theorem wX8_expanded_L16 {p : Program} {l : Launch} {e : Env} {s : State} {m : MethodId} {args : Array Value} {below : List Frame} {meth : Method} {c : Code} {Q : State → Prop} {A : Nat → Prop} (dC : Nat → ClassId) (dI : Nat → Nat → Nat) (cA : ClassId) (a_t a_t_state a_t_kept a_t_stack a_t_text : Nat) (v_t_thrown v_t_saved v_t_textLength v_t_place v_t_sign v_t_readLetters v_t_readLength v_t_readNumber x2_16 y1_16 y3_16 : Int32) (f_t_state_E16 : Nat → Int32) (hx : p.tables.exec = Jvm.exec) (hb : c.code = cX8_expanded) (hml : c.maxLocals = 4) (hown : s.vm.findClass RX8 = some m.cls) (hts : ∀ w ∈ wsX8_expanded, w.before args s = true) (hA : ∀ q, s.heap.size ≤ q → A q) (hK : va_K (dC, dI) vwCl [(cA, .int)] s)
    (kk0 : ∀ (H : Heap) (locs : List Loc), va_P (dC, dI) vwCl [(a_t, .inr (7, [.int v_t_thrown, .ref a_t_state, .ref a_t_kept, .ref a_t_stack, .int v_t_saved, .ref a_t_text, .int v_t_textLength, .int v_t_place, .int v_t_sign, .int v_t_readLetters, .int v_t_readLength, .int v_t_readNumber])), (a_t_state, .inl (cA, 255, .inl f_t_state_E16))] H → va_D A [(a_t, .inr (7, [.int v_t_thrown, .ref a_t_state, .ref a_t_kept, .ref a_t_stack, .int v_t_saved, .ref a_t_text, .int v_t_textLength, .int v_t_place, .int v_t_sign, .int v_t_readLetters, .int v_t_readLength, .int v_t_readNumber])), (a_t_state, .inl (cA, 255, .inl f_t_state_E16))] → va_S A s.heap H locs → ∀ ls : Array Slot, lv_has ls 4 [(0, .ref a_t), (1, .int y1_16), (2, .int x2_16), (3, .int y3_16)] → W p l e (headSpec wsX8_expanded rmX8_expanded).room s m args below meth c H locs 0 0 Q (F0 m 68 ls [])) :
    ∀ (n : Nat) (x1_16 x3_16 : Int32) (f_t_state_L16 : Nat → Int32), mX8_expanded_L16 x2_16 n x1_16 x3_16 f_t_state_L16 = some (y1_16, y3_16, f_t_state_E16) → ∀ (H : Heap) (locs : List Loc), va_P (dC, dI) vwCl [(a_t, .inr (7, [.int v_t_thrown, .ref a_t_state, .ref a_t_kept, .ref a_t_stack, .int v_t_saved, .ref a_t_text, .int v_t_textLength, .int v_t_place, .int v_t_sign, .int v_t_readLetters, .int v_t_readLength, .int v_t_readNumber])), (a_t_state, .inl (cA, 255, .inl f_t_state_L16))] H → va_D A [(a_t, .inr (7, [.int v_t_thrown, .ref a_t_state, .ref a_t_kept, .ref a_t_stack, .int v_t_saved, .ref a_t_text, .int v_t_textLength, .int v_t_place, .int v_t_sign, .int v_t_readLetters, .int v_t_readLength, .int v_t_readNumber])), (a_t_state, .inl (cA, 255, .inl f_t_state_L16))] → va_S A s.heap H locs → ∀ ls : Array Slot, lv_has ls 4 [(0, .ref a_t), (1, .int x1_16), (2, .int x2_16), (3, .int x3_16)] → W p l e (headSpec wsX8_expanded rmX8_expanded).room s m args below meth c H locs 0 0 Q (F0 m 16 ls []) := by
  intro n
  induction n with
  | zero =>
    intro x1_16 x3_16 f_t_state_L16 hm
    cases hm
  | succ n ih =>
    intro x1_16 x3_16 f_t_state_L16 hm H locs hP hD hS ls hl
    rw [mX8_expanded_L16] at hm
    refine lv_iload_n hx hb dX8_expanded_16 rfl (lv_at hl 3 rfl) ?_
    refine lv_aload_n hx hb dX8_expanded_17 rfl (lv_at hl 0 rfl) ?_
    refine lv_iload_n hx hb dX8_expanded_18 rfl (lv_at hl 2 rfl) ?_
    obtain ⟨r19, e19, hm⟩ := bs hm
    try dsimp only at hm
    refine ro_callVe ⟨hx, hb, hml, hown, hts⟩ (kX8_name l dC dI cA a_t a_t_state a_t_kept a_t_stack a_t_text v_t_thrown v_t_saved v_t_textLength v_t_place v_t_sign v_t_readLetters v_t_readLength v_t_readNumber f_t_state_L16 x2_16 r19 e19) (cwV 1 hts gX8_expanded_X8_name rfl rfl rfl hdX8_name ⟨Nat.le_of_ble_eq_true rfl, Nat.le_of_ble_eq_true rfl⟩) (hP.sub [0, 1] rfl) hK rfl rfl rfl hl.1 rfl (Nat.le_of_ble_eq_true rfl) dX8_expanded_19 ⟨Nat.zero_le _, Nat.zero_le _⟩ ?_
    refine sp_callSe ⟨hx, hb, hml, hown, hts⟩ (kX8_lengthOf l r19) (va_cwS 1 hts gX8_expanded_X8_lengthOf rfl rfl rfl hdX8_lengthOf.2 ⟨Nat.le_of_ble_eq_true rfl, Nat.le_of_ble_eq_true rfl⟩) rfl hl.1 rfl (Nat.le_of_ble_eq_true rfl) dX8_expanded_22 ⟨Nat.zero_le _, Nat.zero_le _⟩ ?_
    refine lv_icmp_ge (tgt := 68) hx hb dX8_expanded_25 (by decide) (fun c25 => ?_) (fun c25 => ?_)
    · rw [if_pos c25] at hm
      cases hm
      exact kk0 _ _ (hP.sub [0, 1] rfl) (hD.sub [0, 1] (by decide) rfl) hS _ (lv_sub hl [0, 1, 2, 3] rfl)
    · rw [if_neg c25] at hm
      refine lv_aload_n hx hb dX8_expanded_28 rfl (lv_at hl 0 rfl) ?_
      refine lv_aload_n hx hb dX8_expanded_29 rfl (lv_at hl 0 rfl) ?_
      refine lv_iload_n hx hb dX8_expanded_30 rfl (lv_at hl 2 rfl) ?_
      obtain ⟨r31, e31, hm⟩ := bs hm
      try dsimp only at hm
      refine ro_callVe ⟨hx, hb, hml, hown, hts⟩ (kX8_name l dC dI cA a_t a_t_state a_t_kept a_t_stack a_t_text v_t_thrown v_t_saved v_t_textLength v_t_place v_t_sign v_t_readLetters v_t_readLength v_t_readNumber f_t_state_L16 x2_16 r31 e31) (cwV 1 hts gX8_expanded_X8_name rfl rfl rfl hdX8_name ⟨Nat.le_of_ble_eq_true rfl, Nat.le_of_ble_eq_true rfl⟩) (hP.sub [0, 1] rfl) hK rfl rfl rfl hl.1 rfl (Nat.le_of_ble_eq_true rfl) dX8_expanded_31 ⟨Nat.zero_le _, Nat.zero_le _⟩ ?_
      refine lv_iload_n hx hb dX8_expanded_34 rfl (lv_at hl 3 rfl) ?_
      refine sp_callSe ⟨hx, hb, hml, hown, hts⟩ (kX8_shortened l r31 x3_16) (va_cwS 2 hts gX8_expanded_X8_shortened rfl rfl rfl hdX8_shortened.2 ⟨Nat.le_of_ble_eq_true rfl, Nat.le_of_ble_eq_true rfl⟩) rfl hl.1 rfl (Nat.le_of_ble_eq_true rfl) dX8_expanded_35 ⟨Nat.zero_le _, Nat.zero_le _⟩ ?_
      obtain ⟨r38, e38, hm⟩ := bs hm
      try dsimp only at hm
      refine ro_callVe ⟨hx, hb, hml, hown, hts⟩ (kX8_findHouse l dC dI cA a_t a_t_state a_t_kept a_t_stack a_t_text v_t_thrown v_t_saved v_t_textLength v_t_place v_t_sign v_t_readLetters v_t_readLength v_t_readNumber f_t_state_L16 (mX8_shortened r31 x3_16) r38 e38) (cwV 1 hts gX8_expanded_X8_findHouse rfl rfl rfl hdX8_findHouse ⟨Nat.le_of_ble_eq_true rfl, Nat.le_of_ble_eq_true rfl⟩) (hP.sub [0, 1] rfl) hK rfl rfl rfl hl.1 rfl (Nat.le_of_ble_eq_true rfl) dX8_expanded_38 ⟨Nat.zero_le _, Nat.zero_le _⟩ ?_
      refine lv_iconst (v := (-1)) hx hb dX8_expanded_41 (by decide) ?_
      refine lv_icmp_ne (tgt := 62) hx hb dX8_expanded_42 (by decide) (fun c42 => ?_) (fun c42 => ?_)
      · rw [if_neg c42] at hm
        refine lv_iinc (v := (x3_16 + 1)) (lv' := [(3, .int (x3_16 + 1)), (0, .ref a_t), (1, .int x1_16), (2, .int x2_16)]) hx hb dX8_expanded_62 hl (k := 3) rfl rfl (by decide) rfl (fun ls hl => ?_)
        refine lv_goto (tgt := 16) hx hb dX8_expanded_65 (by decide) ?_
        exact ih _ _ _ hm _ _ (hP.sub [0, 1] rfl) (hD.sub [0, 1] (by decide) rfl) hS _ (lv_sub hl [1, 2, 3, 0] rfl)
      · rw [if_pos c42] at hm
        refine lv_aload_n hx hb dX8_expanded_45 rfl (lv_at hl 0 rfl) ?_
        refine lv_aload_n hx hb dX8_expanded_46 rfl (lv_at hl 0 rfl) ?_
        refine lv_iload_n hx hb dX8_expanded_47 rfl (lv_at hl 2 rfl) ?_
        obtain ⟨r48, e48, hm⟩ := bs hm
        try dsimp only at hm
        refine ro_callVe ⟨hx, hb, hml, hown, hts⟩ (kX8_name l dC dI cA a_t a_t_state a_t_kept a_t_stack a_t_text v_t_thrown v_t_saved v_t_textLength v_t_place v_t_sign v_t_readLetters v_t_readLength v_t_readNumber f_t_state_L16 x2_16 r48 e48) (cwV 1 hts gX8_expanded_X8_name rfl rfl rfl hdX8_name ⟨Nat.le_of_ble_eq_true rfl, Nat.le_of_ble_eq_true rfl⟩) (hP.sub [0, 1] rfl) hK rfl rfl rfl hl.1 rfl (Nat.le_of_ble_eq_true rfl) dX8_expanded_48 ⟨Nat.zero_le _, Nat.zero_le _⟩ ?_
        refine lv_iload_n hx hb dX8_expanded_51 rfl (lv_at hl 3 rfl) ?_
        refine sp_callSe ⟨hx, hb, hml, hown, hts⟩ (kX8_shortened l r48 x3_16) (va_cwS 2 hts gX8_expanded_X8_shortened rfl rfl rfl hdX8_shortened.2 ⟨Nat.le_of_ble_eq_true rfl, Nat.le_of_ble_eq_true rfl⟩) rfl hl.1 rfl (Nat.le_of_ble_eq_true rfl) dX8_expanded_52 ⟨Nat.zero_le _, Nat.zero_le _⟩ ?_
        obtain ⟨⟨r55, f_t_state_55⟩, e55, hm⟩ := bs hm
        try dsimp only at hm
        refine mu_callVe (wr := []) ⟨hx, hb, hml, hown, hts⟩ (kX8_evicts l dC dI cA a_t a_t_state a_t_kept a_t_stack a_t_text v_t_thrown v_t_saved v_t_textLength v_t_place v_t_sign v_t_readLetters v_t_readLength v_t_readNumber f_t_state_L16 (mX8_shortened r48 x3_16) _ r55 f_t_state_55 e55) (cwV 1 hts gX8_expanded_X8_evicts rfl rfl rfl hdX8_evicts ⟨Nat.le_of_ble_eq_true rfl, Nat.le_of_ble_eq_true rfl⟩) hP hD hS hA hK [0, 1] [] rfl rfl rfl rfl (by decide) rfl rfl rfl hl.1 rfl (Nat.le_of_ble_eq_true rfl) dX8_expanded_55 ⟨Nat.zero_le _, Nat.zero_le _⟩ (fun H locs hP hD hS => ?_)
        have hP : va_P (dC, dI) vwCl [(a_t, .inr (7, [.int v_t_thrown, .ref a_t_state, .ref a_t_kept, .ref a_t_stack, .int v_t_saved, .ref a_t_text, .int v_t_textLength, .int v_t_place, .int v_t_sign, .int v_t_readLetters, .int v_t_readLength, .int v_t_readNumber])), (a_t_state, .inl (cA, 255, .inl f_t_state_55))] H := hP
        have hD : va_D A [(a_t, .inr (7, [.int v_t_thrown, .ref a_t_state, .ref a_t_kept, .ref a_t_stack, .int v_t_saved, .ref a_t_text, .int v_t_textLength, .int v_t_place, .int v_t_sign, .int v_t_readLetters, .int v_t_readLength, .int v_t_readNumber])), (a_t_state, .inl (cA, 255, .inl f_t_state_55))] := hD
        refine lv_pop hx hb dX8_expanded_58 rfl ?_
        refine lv_iinc (v := (x1_16 + 1)) (lv' := [(1, .int (x1_16 + 1)), (0, .ref a_t), (2, .int x2_16), (3, .int x3_16)]) hx hb dX8_expanded_59 hl (k := 1) rfl rfl (by decide) rfl (fun ls hl => ?_)
        refine lv_iinc (v := (x3_16 + 1)) (lv' := [(3, .int (x3_16 + 1)), (1, .int (x1_16 + 1)), (0, .ref a_t), (2, .int x2_16)]) hx hb dX8_expanded_62 hl (k := 3) rfl rfl (by decide) rfl (fun ls hl => ?_)
        refine lv_goto (tgt := 16) hx hb dX8_expanded_65 (by decide) ?_
        exact ih _ _ _ hm _ _ (hP.sub [0, 1] rfl) (hD.sub [0, 1] (by decide) rfl) hS _ (lv_sub hl [2, 1, 3, 0] rfl)
set_option maxHeartbeats 4000000 in
set_option maxRecDepth 100000 in
theorem wX8_expanded_L4 {p : Program} {l : Launch} {e : Env} {s : State} {m : MethodId} {args : Array Value} {below : List Frame} {meth : Method} {c : Code} {Q : State → Prop} {A : Nat → Prop} (dC : Nat → ClassId) (dI : Nat → Nat → Nat) (cA : ClassId) (a_t a_t_state a_t_kept a_t_stack a_t_text : Nat) (v_t_thrown v_t_saved v_t_textLength v_t_place v_t_sign v_t_readLetters v_t_readLength v_t_readNumber y1_4 y2_4 : Int32) (f_t_state_E4 : Nat → Int32) (hx : p.tables.exec = Jvm.exec) (hb : c.code = cX8_expanded) (hml : c.maxLocals = 4) (hown : s.vm.findClass RX8 = some m.cls) (hts : ∀ w ∈ wsX8_expanded, w.before args s = true) (hA : ∀ q, s.heap.size ≤ q → A q) (hK : va_K (dC, dI) vwCl [(cA, .int)] s)
    (kk0 : ∀ (H : Heap) (locs : List Loc), va_P (dC, dI) vwCl [(a_t, .inr (7, [.int v_t_thrown, .ref a_t_state, .ref a_t_kept, .ref a_t_stack, .int v_t_saved, .ref a_t_text, .int v_t_textLength, .int v_t_place, .int v_t_sign, .int v_t_readLetters, .int v_t_readLength, .int v_t_readNumber])), (a_t_state, .inl (cA, 255, .inl f_t_state_E4))] H → va_D A [(a_t, .inr (7, [.int v_t_thrown, .ref a_t_state, .ref a_t_kept, .ref a_t_stack, .int v_t_saved, .ref a_t_text, .int v_t_textLength, .int v_t_place, .int v_t_sign, .int v_t_readLetters, .int v_t_readLength, .int v_t_readNumber])), (a_t_state, .inl (cA, 255, .inl f_t_state_E4))] → va_S A s.heap H locs → ∀ ls : Array Slot, lv_has ls 4 [(0, .ref a_t), (1, .int y1_4), (2, .int y2_4)] → W p l e (headSpec wsX8_expanded rmX8_expanded).room s m args below meth c H locs 0 0 Q (F0 m 74 ls [])) :
    ∀ (n : Nat) (x1_4 x2_4 : Int32) (f_t_state_L4 : Nat → Int32), mX8_expanded_L4  n x1_4 x2_4 f_t_state_L4 = some (y1_4, y2_4, f_t_state_E4) → ∀ (H : Heap) (locs : List Loc), va_P (dC, dI) vwCl [(a_t, .inr (7, [.int v_t_thrown, .ref a_t_state, .ref a_t_kept, .ref a_t_stack, .int v_t_saved, .ref a_t_text, .int v_t_textLength, .int v_t_place, .int v_t_sign, .int v_t_readLetters, .int v_t_readLength, .int v_t_readNumber])), (a_t_state, .inl (cA, 255, .inl f_t_state_L4))] H → va_D A [(a_t, .inr (7, [.int v_t_thrown, .ref a_t_state, .ref a_t_kept, .ref a_t_stack, .int v_t_saved, .ref a_t_text, .int v_t_textLength, .int v_t_place, .int v_t_sign, .int v_t_readLetters, .int v_t_readLength, .int v_t_readNumber])), (a_t_state, .inl (cA, 255, .inl f_t_state_L4))] → va_S A s.heap H locs → ∀ ls : Array Slot, lv_has ls 4 [(0, .ref a_t), (1, .int x1_4), (2, .int x2_4)] → W p l e (headSpec wsX8_expanded rmX8_expanded).room s m args below meth c H locs 0 0 Q (F0 m 4 ls []) := by
  intro n
  induction n with
  | zero =>
    intro x1_4 x2_4 f_t_state_L4 hm
    cases hm
  | succ n ih =>
    intro x1_4 x2_4 f_t_state_L4 hm H locs hP hD hS ls hl
    rw [mX8_expanded_L4] at hm
    refine lv_iload_n hx hb dX8_expanded_4 rfl (lv_at hl 2 rfl) ?_
    refine lv_aload_n hx hb dX8_expanded_5 rfl (lv_at hl 0 rfl) ?_
    refine va_get (D := (dC, dI)) (ci := 7) (C := RX8) (T := TX8) (N := 12) hx hb hts iX8_expanded_X8 hown hK hP 0 rfl rfl 1 (by decide) (hts _ (List.mem_of_getElem? (i := 1) rfl)) (fun _ h9 => h9) rfl dX8_expanded_6 ?_
    refine lv_iconst (v := 1) hx hb dX8_expanded_9 (by decide) ?_
    refine xa_ldK hx hb hK hP 1 0 rfl rfl 1 rfl (by decide) (by decide) dX8_expanded_10 ?_
    refine lv_icmp_ge (tgt := 74) hx hb dX8_expanded_11 (by decide) (fun c11 => ?_) (fun c11 => ?_)
    · rw [if_pos c11] at hm
      cases hm
      exact kk0 _ _ (hP.sub [0, 1] rfl) (hD.sub [0, 1] (by decide) rfl) hS _ (lv_sub hl [0, 1, 2] rfl)
    · rw [if_neg c11] at hm
      refine lv_iconst (v := 1) hx hb dX8_expanded_14 (by decide) ?_
      refine lv_istore_n (lv' := [(3, .int 1), (0, .ref a_t), (1, .int x1_4), (2, .int x2_4)]) hx hb dX8_expanded_15 rfl hl (by decide) rfl (fun ls hl => ?_)
      obtain ⟨⟨y1_16, y3_16, f_t_state_E16⟩, e16, hm⟩ := bs hm
      try dsimp only at hm
      refine wX8_expanded_L16 dC dI cA a_t a_t_state a_t_kept a_t_stack a_t_text v_t_thrown v_t_saved v_t_textLength v_t_place v_t_sign v_t_readLetters v_t_readLength v_t_readNumber x2_4 y1_16 y3_16 f_t_state_E16 hx hb hml hown hts hA hK ?_ FU _ _ _ e16 _ _ (hP.sub [0, 1] rfl) (hD.sub [0, 1] (by decide) rfl) hS _ (lv_sub hl [1, 2, 3, 0] rfl)
      · intro H locs hP hD hS ls hl
        refine lv_iinc (v := (x2_4 + 1)) (lv' := [(2, .int (x2_4 + 1)), (0, .ref a_t), (1, .int y1_16), (3, .int y3_16)]) hx hb dX8_expanded_68 hl (k := 2) rfl rfl (by decide) rfl (fun ls hl => ?_)
        refine lv_goto (tgt := 4) hx hb dX8_expanded_71 (by decide) ?_
        exact ih _ _ _ hm _ _ (hP.sub [0, 1] rfl) (hD.sub [0, 1] (by decide) rfl) hS _ (lv_sub hl [1, 2, 0] rfl)
set_option maxHeartbeats 4000000 in
set_option maxRecDepth 100000 in
theorem kX8_expanded (l : Launch) (dC : Nat → ClassId) (dI : Nat → Nat → Nat) (cA : ClassId) (a_t a_t_state a_t_kept a_t_stack a_t_text : Nat) (v_t_thrown v_t_saved v_t_textLength v_t_place v_t_sign v_t_readLetters v_t_readLength v_t_readNumber : Int32) (f_t_state : Nat → Int32) (sz : Nat) (r : Int32) (o_f_t_state : Nat → Int32) (hm : (mX8_expanded f_t_state) = some (r, o_f_t_state)) : Met l yX8_expanded wsX8_expanded rmX8_expanded (mpc (dC, dI) [(cA, .int)] (wX8_expanded cA a_t a_t_state a_t_kept a_t_stack a_t_text v_t_thrown v_t_saved v_t_textLength v_t_place v_t_sign v_t_readLetters v_t_readLength v_t_readNumber f_t_state) [.ref a_t] sz) (mqi (dC, dI) [(cA, .int)] (va_A (wX8_expanded cA a_t a_t_state a_t_kept a_t_stack a_t_text v_t_thrown v_t_saved v_t_textLength v_t_place v_t_sign v_t_readLetters v_t_readLength v_t_readNumber f_t_state) sz) (wX8_expanded cA a_t a_t_state a_t_kept a_t_stack a_t_text v_t_thrown v_t_saved v_t_textLength v_t_place v_t_sign v_t_readLetters v_t_readLength v_t_readNumber o_f_t_state) (fun x => x = r)) 0 0 (va_A (wX8_expanded cA a_t a_t_state a_t_kept a_t_stack a_t_text v_t_thrown v_t_saved v_t_textLength v_t_place v_t_sign v_t_readLetters v_t_readLength v_t_readNumber f_t_state) sz) := by
  unfold mX8_expanded at hm
  refine mu_ofW (Qc := fun A => mqi (dC, dI) [(cA, .int)] A (wX8_expanded cA a_t a_t_state a_t_kept a_t_stack a_t_text v_t_thrown v_t_saved v_t_textLength v_t_place v_t_sign v_t_readLetters v_t_readLength v_t_readNumber o_f_t_state) (fun x => x = r)) (cc := cX8_expanded) (maxL := 4) (ret := (some .int)) (own := RX8) (by decide) rfl rfl (Nat.le_of_ble_eq_true rfl) ?_
  intro p e s m args below meth c hx hb hr hts hown hlocks hml hin A hA hP hD hS hK ls hl
  have hl : lv_has ls 4 [(0, .ref a_t)] := hl
  have hP : va_P (dC, dI) vwCl [(a_t, .inr (7, [.int v_t_thrown, .ref a_t_state, .ref a_t_kept, .ref a_t_stack, .int v_t_saved, .ref a_t_text, .int v_t_textLength, .int v_t_place, .int v_t_sign, .int v_t_readLetters, .int v_t_readLength, .int v_t_readNumber])), (a_t_state, .inl (cA, 255, .inl f_t_state))] s.heap := hP
  have hD : va_D A [(a_t, .inr (7, [.int v_t_thrown, .ref a_t_state, .ref a_t_kept, .ref a_t_stack, .int v_t_saved, .ref a_t_text, .int v_t_textLength, .int v_t_place, .int v_t_sign, .int v_t_readLetters, .int v_t_readLength, .int v_t_readNumber])), (a_t_state, .inl (cA, 255, .inl f_t_state))] := hD
  refine lv_iconst (v := 0) hx hb dX8_expanded_0 (by decide) ?_
  refine lv_istore_n (lv' := [(1, .int 0), (0, .ref a_t)]) hx hb dX8_expanded_1 rfl hl (by decide) rfl (fun ls hl => ?_)
  refine lv_iconst (v := 0) hx hb dX8_expanded_2 (by decide) ?_
  refine lv_istore_n (lv' := [(2, .int 0), (1, .int 0), (0, .ref a_t)]) hx hb dX8_expanded_3 rfl hl (by decide) rfl (fun ls hl => ?_)
  obtain ⟨⟨y1_4, y2_4, f_t_state_E4⟩, e4, hm⟩ := bs hm
  try dsimp only at hm
  refine wX8_expanded_L4 dC dI cA a_t a_t_state a_t_kept a_t_stack a_t_text v_t_thrown v_t_saved v_t_textLength v_t_place v_t_sign v_t_readLetters v_t_readLength v_t_readNumber  y1_4 y2_4 f_t_state_E4 hx hb hml hown hts hA hK ?_ FU _ _ _ e4 _ _ (hP.sub [0, 1] rfl) (hD.sub [0, 1] (by decide) rfl) hS _ (lv_sub hl [2, 1, 0] rfl)
  · intro H locs hP hD hS ls hl
    refine lv_iload_n hx hb dX8_expanded_74 rfl (lv_at hl 1 rfl) ?_
    cases hm
    exact mu_iret hx hb hr rfl rfl hP hD hS hK [0, 1] rfl (by decide) dX8_expanded_75 hlocks
def mX8_expand (v_t_saved : Int32) (f_t_state : Nat → Int32) (f_t_stack : Nat → Int32) : Option (Int32 × Int32 × Int32 × (Nat → Int32) × (Nat → Int32)) :=
  ((mX8_save v_t_saved f_t_state f_t_stack).bind fun (v_t_saved_6, f_t_stack_6) =>
  ((mX8_expanded f_t_state).bind fun (r10, f_t_state_10) =>
  some (r10, 0, v_t_saved_6, f_t_state_10, f_t_stack_6)))
abbrev rmX8_expand : Room := { frames := 8, cells := 0, slots := 0, locals := 169 }
abbrev wX8_expand (cA : ClassId) (a_t a_t_state a_t_kept a_t_stack a_t_text : Nat) (v_t_thrown v_t_saved v_t_textLength v_t_place v_t_sign v_t_readLetters v_t_readLength v_t_readNumber : Int32) (f_t_state f_t_stack : Nat → Int32) : va_W := [(a_t, .inr (7, [.int v_t_thrown, .ref a_t_state, .ref a_t_kept, .ref a_t_stack, .int v_t_saved, .ref a_t_text, .int v_t_textLength, .int v_t_place, .int v_t_sign, .int v_t_readLetters, .int v_t_readLength, .int v_t_readNumber])), (a_t_state, .inl (cA, 255, .inl f_t_state)), (a_t_stack, .inl (cA, 1020, .inl f_t_stack))]
theorem iX8_expand_X8 : ∀ w ∈ wsX80, w ∈ wsX8_expand := (fun _ h => List.mem_cons_of_mem _ (List.mem_append_right _ h))
theorem hdX8_expand : yX8_expand.cls = RX8 ∧ yX8_expand.cls ≠ "java/lang/invoke/MethodHandle" ∧ yX8_expand.cls ≠ "java/lang/invoke/VarHandle" ∧ (parseMethodDescriptor yX8_expand.desc).map (fun d => d.parameters.length) = some 0 := by decide +kernel
set_option maxHeartbeats 4000000 in
set_option maxRecDepth 100000 in
theorem kX8_expand (l : Launch) (dC : Nat → ClassId) (dI : Nat → Nat → Nat) (cA : ClassId) (a_t a_t_state a_t_kept a_t_stack a_t_text : Nat) (v_t_thrown v_t_saved v_t_textLength v_t_place v_t_sign v_t_readLetters v_t_readLength v_t_readNumber : Int32) (f_t_state f_t_stack : Nat → Int32) (sz : Nat) (r o_v_t_thrown o_v_t_saved : Int32) (o_f_t_state o_f_t_stack : Nat → Int32) (hm : (mX8_expand v_t_saved f_t_state f_t_stack) = some (r, o_v_t_thrown, o_v_t_saved, o_f_t_state, o_f_t_stack)) : Met l yX8_expand wsX8_expand rmX8_expand (mpc (dC, dI) [(cA, .int)] (wX8_expand cA a_t a_t_state a_t_kept a_t_stack a_t_text v_t_thrown v_t_saved v_t_textLength v_t_place v_t_sign v_t_readLetters v_t_readLength v_t_readNumber f_t_state f_t_stack) [.ref a_t] sz) (mqi (dC, dI) [(cA, .int)] (va_A (wX8_expand cA a_t a_t_state a_t_kept a_t_stack a_t_text v_t_thrown v_t_saved v_t_textLength v_t_place v_t_sign v_t_readLetters v_t_readLength v_t_readNumber f_t_state f_t_stack) sz) (wX8_expand cA a_t a_t_state a_t_kept a_t_stack a_t_text o_v_t_thrown o_v_t_saved v_t_textLength v_t_place v_t_sign v_t_readLetters v_t_readLength v_t_readNumber o_f_t_state o_f_t_stack) (fun x => x = r)) 0 0 (va_A (wX8_expand cA a_t a_t_state a_t_kept a_t_stack a_t_text v_t_thrown v_t_saved v_t_textLength v_t_place v_t_sign v_t_readLetters v_t_readLength v_t_readNumber f_t_state f_t_stack) sz) := by
  unfold mX8_expand at hm
  refine mu_ofW (Qc := fun A => mqi (dC, dI) [(cA, .int)] A (wX8_expand cA a_t a_t_state a_t_kept a_t_stack a_t_text o_v_t_thrown o_v_t_saved v_t_textLength v_t_place v_t_sign v_t_readLetters v_t_readLength v_t_readNumber o_f_t_state o_f_t_stack) (fun x => x = r)) (cc := cX8_expand) (maxL := 1) (ret := (some .int)) (own := RX8) (by decide) rfl rfl (Nat.le_of_ble_eq_true rfl) ?_
  intro p e s m args below meth c hx hb hr hts hown hlocks hml hin A hA hP hD hS hK ls hl
  have hl : lv_has ls 1 [(0, .ref a_t)] := hl
  have hP : va_P (dC, dI) vwCl [(a_t, .inr (7, [.int v_t_thrown, .ref a_t_state, .ref a_t_kept, .ref a_t_stack, .int v_t_saved, .ref a_t_text, .int v_t_textLength, .int v_t_place, .int v_t_sign, .int v_t_readLetters, .int v_t_readLength, .int v_t_readNumber])), (a_t_state, .inl (cA, 255, .inl f_t_state)), (a_t_stack, .inl (cA, 1020, .inl f_t_stack))] s.heap := hP
  have hD : va_D A [(a_t, .inr (7, [.int v_t_thrown, .ref a_t_state, .ref a_t_kept, .ref a_t_stack, .int v_t_saved, .ref a_t_text, .int v_t_textLength, .int v_t_place, .int v_t_sign, .int v_t_readLetters, .int v_t_readLength, .int v_t_readNumber])), (a_t_state, .inl (cA, 255, .inl f_t_state)), (a_t_stack, .inl (cA, 1020, .inl f_t_stack))] := hD
  refine lv_aload_n hx hb dX8_expand_0 rfl (lv_at hl 0 rfl) ?_
  refine lv_iconst (v := 0) hx hb dX8_expand_1 (by decide) ?_
  refine va_put (D := (dC, dI)) (ci := 7) (C := RX8) (T := TX8) (N := 12) (ty := .int) hx hb hts iX8_expand_X8 tyX8 tyX8_ok nmX8 hown hK hP hD hS 0 rfl rfl 0 (by decide) (hts _ (List.mem_of_getElem? (i := 1) rfl)) (fun _ h9 => h9) rfl (by decide +kernel) rfl rfl (Nat.le_of_ble_eq_true rfl) dX8_expand_2 (fun H locs hP hD hS => ?_)
  have hP : va_P (dC, dI) vwCl [(a_t, .inr (7, [.int 0, .ref a_t_state, .ref a_t_kept, .ref a_t_stack, .int v_t_saved, .ref a_t_text, .int v_t_textLength, .int v_t_place, .int v_t_sign, .int v_t_readLetters, .int v_t_readLength, .int v_t_readNumber])), (a_t_state, .inl (cA, 255, .inl f_t_state)), (a_t_stack, .inl (cA, 1020, .inl f_t_stack))] H := hP
  have hD : va_D A [(a_t, .inr (7, [.int 0, .ref a_t_state, .ref a_t_kept, .ref a_t_stack, .int v_t_saved, .ref a_t_text, .int v_t_textLength, .int v_t_place, .int v_t_sign, .int v_t_readLetters, .int v_t_readLength, .int v_t_readNumber])), (a_t_state, .inl (cA, 255, .inl f_t_state)), (a_t_stack, .inl (cA, 1020, .inl f_t_stack))] := hD
  refine lv_aload_n hx hb dX8_expand_5 rfl (lv_at hl 0 rfl) ?_
  obtain ⟨⟨v_t_saved_6, f_t_stack_6⟩, e6, hm⟩ := bs hm
  try dsimp only at hm
  refine mu_callVv (wr := []) ⟨hx, hb, hml, hown, hts⟩ (kX8_save l dC dI cA a_t a_t_state a_t_kept a_t_stack a_t_text 0 v_t_saved v_t_textLength v_t_place v_t_sign v_t_readLetters v_t_readLength v_t_readNumber f_t_state f_t_stack _ v_t_saved_6 f_t_stack_6 e6) (cwV 0 hts gX8_expand_X8_save rfl rfl rfl hdX8_save ⟨Nat.le_of_ble_eq_true rfl, Nat.le_of_ble_eq_true rfl⟩) hP hD hS hA hK [0, 1, 2] [] rfl rfl rfl rfl (by decide) rfl rfl rfl hl.1 rfl (Nat.le_of_ble_eq_true rfl) dX8_expand_6 ⟨Nat.zero_le _, Nat.zero_le _⟩ (fun H locs hP hD hS => ?_)
  have hP : va_P (dC, dI) vwCl [(a_t, .inr (7, [.int 0, .ref a_t_state, .ref a_t_kept, .ref a_t_stack, .int v_t_saved_6, .ref a_t_text, .int v_t_textLength, .int v_t_place, .int v_t_sign, .int v_t_readLetters, .int v_t_readLength, .int v_t_readNumber])), (a_t_state, .inl (cA, 255, .inl f_t_state)), (a_t_stack, .inl (cA, 1020, .inl f_t_stack_6))] H := hP
  have hD : va_D A [(a_t, .inr (7, [.int 0, .ref a_t_state, .ref a_t_kept, .ref a_t_stack, .int v_t_saved_6, .ref a_t_text, .int v_t_textLength, .int v_t_place, .int v_t_sign, .int v_t_readLetters, .int v_t_readLength, .int v_t_readNumber])), (a_t_state, .inl (cA, 255, .inl f_t_state)), (a_t_stack, .inl (cA, 1020, .inl f_t_stack_6))] := hD
  refine lv_aload_n hx hb dX8_expand_9 rfl (lv_at hl 0 rfl) ?_
  obtain ⟨⟨r10, f_t_state_10⟩, e10, hm⟩ := bs hm
  try dsimp only at hm
  refine mu_callVe (wr := [(a_t_stack, .inl (cA, 1020, .inl f_t_stack_6))]) ⟨hx, hb, hml, hown, hts⟩ (kX8_expanded l dC dI cA a_t a_t_state a_t_kept a_t_stack a_t_text 0 v_t_saved_6 v_t_textLength v_t_place v_t_sign v_t_readLetters v_t_readLength v_t_readNumber f_t_state _ r10 f_t_state_10 e10) (cwV 0 hts gX8_expand_X8_expanded rfl rfl rfl hdX8_expanded ⟨Nat.le_of_ble_eq_true rfl, Nat.le_of_ble_eq_true rfl⟩) hP hD hS hA hK [0, 1] [2] rfl rfl rfl rfl (by decide) rfl rfl rfl hl.1 rfl (Nat.le_of_ble_eq_true rfl) dX8_expand_10 ⟨Nat.zero_le _, Nat.zero_le _⟩ (fun H locs hP hD hS => ?_)
  have hP : va_P (dC, dI) vwCl [(a_t_stack, .inl (cA, 1020, .inl f_t_stack_6)), (a_t, .inr (7, [.int 0, .ref a_t_state, .ref a_t_kept, .ref a_t_stack, .int v_t_saved_6, .ref a_t_text, .int v_t_textLength, .int v_t_place, .int v_t_sign, .int v_t_readLetters, .int v_t_readLength, .int v_t_readNumber])), (a_t_state, .inl (cA, 255, .inl f_t_state_10))] H := hP
  have hD : va_D A [(a_t_stack, .inl (cA, 1020, .inl f_t_stack_6)), (a_t, .inr (7, [.int 0, .ref a_t_state, .ref a_t_kept, .ref a_t_stack, .int v_t_saved_6, .ref a_t_text, .int v_t_textLength, .int v_t_place, .int v_t_sign, .int v_t_readLetters, .int v_t_readLength, .int v_t_readNumber])), (a_t_state, .inl (cA, 255, .inl f_t_state_10))] := hD
  cases hm
  exact mu_iret hx hb hr rfl rfl hP hD hS hK [1, 2, 0] rfl (by decide) dX8_expand_13 hlocks
def mX8_rank (f_t_state : Nat → Int32) (p1 : Int32) (p2 : Int32) : Option (Int32 × Int32) :=
  (if (if (mX8_isPrefix p1 p2 1) = 0 then (1 : Int32) else 0) ≤ 0 then
    ((mX8_rankOf f_t_state (mX8_code p1 p2)).bind fun r35 =>
    some (r35, (if (mX8_isPrefix p1 p2 1) = 0 then (1 : Int32) else 0)))
  else
    some (0, (if (mX8_isPrefix p1 p2 1) = 0 then (1 : Int32) else 0)))
abbrev rmX8_rank : Room := { frames := 2, cells := 0, slots := 0, locals := 44 }
abbrev wX8_rank (cA : ClassId) (a_t a_t_state a_t_kept a_t_stack a_t_text : Nat) (v_t_thrown v_t_saved v_t_textLength v_t_place v_t_sign v_t_readLetters v_t_readLength v_t_readNumber : Int32) (f_t_state : Nat → Int32) : va_W := [(a_t, .inr (7, [.int v_t_thrown, .ref a_t_state, .ref a_t_kept, .ref a_t_stack, .int v_t_saved, .ref a_t_text, .int v_t_textLength, .int v_t_place, .int v_t_sign, .int v_t_readLetters, .int v_t_readLength, .int v_t_readNumber])), (a_t_state, .inl (cA, 255, .inl f_t_state))]
theorem iX8_rank_X8 : ∀ w ∈ wsX80, w ∈ wsX8_rank := (fun _ h => List.mem_cons_of_mem _ (List.mem_append_right _ h))
theorem hdX8_rank : yX8_rank.cls = RX8 ∧ yX8_rank.cls ≠ "java/lang/invoke/MethodHandle" ∧ yX8_rank.cls ≠ "java/lang/invoke/VarHandle" ∧ (parseMethodDescriptor yX8_rank.desc).map (fun d => d.parameters.length) = some 2 := by decide +kernel
set_option maxHeartbeats 4000000 in
set_option maxRecDepth 100000 in
theorem kX8_rank (l : Launch) (dC : Nat → ClassId) (dI : Nat → Nat → Nat) (cA : ClassId) (a_t a_t_state a_t_kept a_t_stack a_t_text : Nat) (v_t_thrown v_t_saved v_t_textLength v_t_place v_t_sign v_t_readLetters v_t_readLength v_t_readNumber : Int32) (f_t_state : Nat → Int32) (p1 p2 : Int32) (sz : Nat) (r o_v_t_thrown : Int32) (hm : (mX8_rank f_t_state p1 p2) = some (r, o_v_t_thrown)) : Met l yX8_rank wsX8_rank rmX8_rank (mpc (dC, dI) [(cA, .int)] (wX8_rank cA a_t a_t_state a_t_kept a_t_stack a_t_text v_t_thrown v_t_saved v_t_textLength v_t_place v_t_sign v_t_readLetters v_t_readLength v_t_readNumber f_t_state) [.ref a_t, .int p1, .int p2] sz) (mqi (dC, dI) [(cA, .int)] (va_A (wX8_rank cA a_t a_t_state a_t_kept a_t_stack a_t_text v_t_thrown v_t_saved v_t_textLength v_t_place v_t_sign v_t_readLetters v_t_readLength v_t_readNumber f_t_state) sz) (wX8_rank cA a_t a_t_state a_t_kept a_t_stack a_t_text o_v_t_thrown v_t_saved v_t_textLength v_t_place v_t_sign v_t_readLetters v_t_readLength v_t_readNumber f_t_state) (fun x => x = r)) 0 0 (va_A (wX8_rank cA a_t a_t_state a_t_kept a_t_stack a_t_text v_t_thrown v_t_saved v_t_textLength v_t_place v_t_sign v_t_readLetters v_t_readLength v_t_readNumber f_t_state) sz) := by
  unfold mX8_rank at hm
  refine mu_ofW (Qc := fun A => mqi (dC, dI) [(cA, .int)] A (wX8_rank cA a_t a_t_state a_t_kept a_t_stack a_t_text o_v_t_thrown v_t_saved v_t_textLength v_t_place v_t_sign v_t_readLetters v_t_readLength v_t_readNumber f_t_state) (fun x => x = r)) (cc := cX8_rank) (maxL := 3) (ret := (some .int)) (own := RX8) (by decide) rfl rfl (Nat.le_of_ble_eq_true rfl) ?_
  intro p e s m args below meth c hx hb hr hts hown hlocks hml hin A hA hP hD hS hK ls hl
  have hl : lv_has ls 3 [(0, .ref a_t), (1, .int p1), (2, .int p2)] := hl
  have hP : va_P (dC, dI) vwCl [(a_t, .inr (7, [.int v_t_thrown, .ref a_t_state, .ref a_t_kept, .ref a_t_stack, .int v_t_saved, .ref a_t_text, .int v_t_textLength, .int v_t_place, .int v_t_sign, .int v_t_readLetters, .int v_t_readLength, .int v_t_readNumber])), (a_t_state, .inl (cA, 255, .inl f_t_state))] s.heap := hP
  have hD : va_D A [(a_t, .inr (7, [.int v_t_thrown, .ref a_t_state, .ref a_t_kept, .ref a_t_stack, .int v_t_saved, .ref a_t_text, .int v_t_textLength, .int v_t_place, .int v_t_sign, .int v_t_readLetters, .int v_t_readLength, .int v_t_readNumber])), (a_t_state, .inl (cA, 255, .inl f_t_state))] := hD
  refine lv_aload_n hx hb dX8_rank_0 rfl (lv_at hl 0 rfl) ?_
  refine lv_iload_n hx hb dX8_rank_1 rfl (lv_at hl 1 rfl) ?_
  refine lv_iload_n hx hb dX8_rank_2 rfl (lv_at hl 2 rfl) ?_
  refine lv_iconst (v := 1) hx hb dX8_rank_3 (by decide) ?_
  refine sp_callSz ⟨hx, hb, hml, hown, hts⟩ (kX8_isPrefix l p1 p2 1) (va_cwS 3 hts gX8_rank_X8_isPrefix rfl rfl rfl hdX8_isPrefix.2 ⟨Nat.le_of_ble_eq_true rfl, Nat.le_of_ble_eq_true rfl⟩) rfl hl.1 rfl (Nat.le_of_ble_eq_true rfl) dX8_rank_4 ⟨Nat.zero_le _, Nat.zero_le _⟩ (fun hb4 => ?_)
  refine lv_if_eq (tgt := 14) hx hb dX8_rank_7 (by decide) (fun c7 => ?_) (fun c7 => ?_)
  · try simp only [if_pos c7] at hm
    refine lv_iconst (v := 1) hx hb dX8_rank_14 (by decide) ?_
    refine va_put (D := (dC, dI)) (ci := 7) (C := RX8) (T := TX8) (N := 12) (ty := .int) hx hb hts iX8_rank_X8 tyX8 tyX8_ok nmX8 hown hK hP hD hS 0 rfl rfl 0 (by decide) (hts _ (List.mem_of_getElem? (i := 1) rfl)) (fun _ h9 => h9) rfl (by decide +kernel) rfl rfl (Nat.le_of_ble_eq_true rfl) dX8_rank_15 (fun H locs hP hD hS => ?_)
    have hP : va_P (dC, dI) vwCl [(a_t, .inr (7, [.int 1, .ref a_t_state, .ref a_t_kept, .ref a_t_stack, .int v_t_saved, .ref a_t_text, .int v_t_textLength, .int v_t_place, .int v_t_sign, .int v_t_readLetters, .int v_t_readLength, .int v_t_readNumber])), (a_t_state, .inl (cA, 255, .inl f_t_state))] H := hP
    have hD : va_D A [(a_t, .inr (7, [.int 1, .ref a_t_state, .ref a_t_kept, .ref a_t_stack, .int v_t_saved, .ref a_t_text, .int v_t_textLength, .int v_t_place, .int v_t_sign, .int v_t_readLetters, .int v_t_readLength, .int v_t_readNumber])), (a_t_state, .inl (cA, 255, .inl f_t_state))] := hD
    refine lv_aload_n hx hb dX8_rank_18 rfl (lv_at hl 0 rfl) ?_
    refine va_get (D := (dC, dI)) (ci := 7) (C := RX8) (T := TX8) (N := 12) hx hb hts iX8_rank_X8 hown hK hP 0 rfl rfl 0 (by decide) (hts _ (List.mem_of_getElem? (i := 1) rfl)) (fun _ h9 => h9) rfl dX8_rank_19 ?_
    refine lv_if_le (tgt := 29) hx hb dX8_rank_22 (by decide) (fun c22 => absurd c22 (by decide)) (fun c22 => ?_)
    try rw [if_neg (show ¬ ((1 : Int32) ≤ 0) by decide)] at hm
    refine lv_iconst (v := 0) hx hb dX8_rank_25 (by decide) ?_
    refine lv_goto (tgt := 38) hx hb dX8_rank_26 (by decide) ?_
    cases hm
    exact mu_iret hx hb hr rfl rfl hP hD hS hK [0, 1] rfl (by decide) dX8_rank_38 hlocks
  · try simp only [if_neg c7] at hm
    refine lv_iconst (v := 0) hx hb dX8_rank_10 (by decide) ?_
    refine lv_goto (tgt := 15) hx hb dX8_rank_11 (by decide) ?_
    refine va_put (D := (dC, dI)) (ci := 7) (C := RX8) (T := TX8) (N := 12) (ty := .int) hx hb hts iX8_rank_X8 tyX8 tyX8_ok nmX8 hown hK hP hD hS 0 rfl rfl 0 (by decide) (hts _ (List.mem_of_getElem? (i := 1) rfl)) (fun _ h9 => h9) rfl (by decide +kernel) rfl rfl (Nat.le_of_ble_eq_true rfl) dX8_rank_15 (fun H locs hP hD hS => ?_)
    have hP : va_P (dC, dI) vwCl [(a_t, .inr (7, [.int 0, .ref a_t_state, .ref a_t_kept, .ref a_t_stack, .int v_t_saved, .ref a_t_text, .int v_t_textLength, .int v_t_place, .int v_t_sign, .int v_t_readLetters, .int v_t_readLength, .int v_t_readNumber])), (a_t_state, .inl (cA, 255, .inl f_t_state))] H := hP
    have hD : va_D A [(a_t, .inr (7, [.int 0, .ref a_t_state, .ref a_t_kept, .ref a_t_stack, .int v_t_saved, .ref a_t_text, .int v_t_textLength, .int v_t_place, .int v_t_sign, .int v_t_readLetters, .int v_t_readLength, .int v_t_readNumber])), (a_t_state, .inl (cA, 255, .inl f_t_state))] := hD
    refine lv_aload_n hx hb dX8_rank_18 rfl (lv_at hl 0 rfl) ?_
    refine va_get (D := (dC, dI)) (ci := 7) (C := RX8) (T := TX8) (N := 12) hx hb hts iX8_rank_X8 hown hK hP 0 rfl rfl 0 (by decide) (hts _ (List.mem_of_getElem? (i := 1) rfl)) (fun _ h9 => h9) rfl dX8_rank_19 ?_
    refine lv_if_le (tgt := 29) hx hb dX8_rank_22 (by decide) (fun c22 => ?_) (fun c22 => absurd c22 (by decide))
    try rw [if_pos (show (0 : Int32) ≤ 0 by decide)] at hm
    refine lv_aload_n hx hb dX8_rank_29 rfl (lv_at hl 0 rfl) ?_
    refine lv_iload_n hx hb dX8_rank_30 rfl (lv_at hl 1 rfl) ?_
    refine lv_iload_n hx hb dX8_rank_31 rfl (lv_at hl 2 rfl) ?_
    refine sp_callSe ⟨hx, hb, hml, hown, hts⟩ (kX8_code l p1 p2) (va_cwS 2 hts gX8_rank_X8_code rfl rfl rfl hdX8_code.2 ⟨Nat.le_of_ble_eq_true rfl, Nat.le_of_ble_eq_true rfl⟩) rfl hl.1 rfl (Nat.le_of_ble_eq_true rfl) dX8_rank_32 ⟨Nat.zero_le _, Nat.zero_le _⟩ ?_
    obtain ⟨r35, e35, hm⟩ := bs hm
    try dsimp only at hm
    refine ro_callVe ⟨hx, hb, hml, hown, hts⟩ (kX8_rankOf l dC dI cA a_t a_t_state a_t_kept a_t_stack a_t_text 0 v_t_saved v_t_textLength v_t_place v_t_sign v_t_readLetters v_t_readLength v_t_readNumber f_t_state (mX8_code p1 p2) r35 e35) (cwV 1 hts gX8_rank_X8_rankOf rfl rfl rfl hdX8_rankOf ⟨Nat.le_of_ble_eq_true rfl, Nat.le_of_ble_eq_true rfl⟩) (hP.sub [0, 1] rfl) hK rfl rfl rfl hl.1 rfl (Nat.le_of_ble_eq_true rfl) dX8_rank_35 ⟨Nat.zero_le _, Nat.zero_le _⟩ ?_
    cases hm
    exact mu_iret hx hb hr rfl rfl hP hD hS hK [0, 1] rfl (by decide) dX8_rank_38 hlocks
def mX8_isRank (f_t_state : Nat → Int32) (p1 : Int32) : Int32 :=
  (mX8_within p1 0 ((f_t_state 1) - 1))
abbrev rmX8_isRank : Room := { frames := 1, cells := 0, slots := 0, locals := 22 }
abbrev wX8_isRank (cA : ClassId) (a_t a_t_state a_t_kept a_t_stack a_t_text : Nat) (v_t_thrown v_t_saved v_t_textLength v_t_place v_t_sign v_t_readLetters v_t_readLength v_t_readNumber : Int32) (f_t_state : Nat → Int32) : va_W := [(a_t, .inr (7, [.int v_t_thrown, .ref a_t_state, .ref a_t_kept, .ref a_t_stack, .int v_t_saved, .ref a_t_text, .int v_t_textLength, .int v_t_place, .int v_t_sign, .int v_t_readLetters, .int v_t_readLength, .int v_t_readNumber])), (a_t_state, .inl (cA, 255, .inl f_t_state))]
theorem iX8_isRank_X8 : ∀ w ∈ wsX80, w ∈ wsX8_isRank := (fun _ h => List.mem_cons_of_mem _ (List.mem_append_right _ h))
theorem hdX8_isRank : yX8_isRank.cls = RX8 ∧ yX8_isRank.cls ≠ "java/lang/invoke/MethodHandle" ∧ yX8_isRank.cls ≠ "java/lang/invoke/VarHandle" ∧ (parseMethodDescriptor yX8_isRank.desc).map (fun d => d.parameters.length) = some 1 := by decide +kernel
set_option maxHeartbeats 4000000 in
set_option maxRecDepth 100000 in
theorem kX8_isRank (l : Launch) (dC : Nat → ClassId) (dI : Nat → Nat → Nat) (cA : ClassId) (a_t a_t_state a_t_kept a_t_stack a_t_text : Nat) (v_t_thrown v_t_saved v_t_textLength v_t_place v_t_sign v_t_readLetters v_t_readLength v_t_readNumber : Int32) (f_t_state : Nat → Int32) (p1 : Int32) : Met l yX8_isRank wsX8_isRank rmX8_isRank (rpc (dC, dI) [(cA, .int)] (wX8_isRank cA a_t a_t_state a_t_kept a_t_stack a_t_text v_t_thrown v_t_saved v_t_textLength v_t_place v_t_sign v_t_readLetters v_t_readLength v_t_readNumber f_t_state) [.ref a_t, .int p1]) (vp_Si (fun x => x = (mX8_isRank f_t_state p1) ∧ nbr (mX8_isRank f_t_state p1))) 0 0 (fun _ => False) := by
  obtain ⟨r, hm⟩ : ∃ r, mX8_isRank f_t_state p1 = r := ⟨_, rfl⟩
  rw [hm]
  unfold mX8_isRank at hm
  refine ro_ofW (cc := cX8_isRank) (maxL := 2) (ret := (some .boolean)) (own := RX8) (by decide) rfl rfl (Nat.le_of_ble_eq_true rfl) ?_
  intro p e s m args below meth c hx hb hr hts hown hlocks hml hP hK ls hl
  have hl : lv_has ls 2 [(0, .ref a_t), (1, .int p1)] := hl
  have hP : va_P (dC, dI) vwCl [(a_t, .inr (7, [.int v_t_thrown, .ref a_t_state, .ref a_t_kept, .ref a_t_stack, .int v_t_saved, .ref a_t_text, .int v_t_textLength, .int v_t_place, .int v_t_sign, .int v_t_readLetters, .int v_t_readLength, .int v_t_readNumber])), (a_t_state, .inl (cA, 255, .inl f_t_state))] s.heap := hP
  refine lv_iload_n hx hb dX8_isRank_0 rfl (lv_at hl 1 rfl) ?_
  refine lv_iconst (v := 0) hx hb dX8_isRank_1 (by decide) ?_
  refine lv_aload_n hx hb dX8_isRank_2 rfl (lv_at hl 0 rfl) ?_
  refine va_get (D := (dC, dI)) (ci := 7) (C := RX8) (T := TX8) (N := 12) hx hb hts iX8_isRank_X8 hown hK hP 0 rfl rfl 1 (by decide) (hts _ (List.mem_of_getElem? (i := 1) rfl)) (fun _ h9 => h9) rfl dX8_isRank_3 ?_
  refine lv_iconst (v := 1) hx hb dX8_isRank_6 (by decide) ?_
  refine xa_ldK hx hb hK hP 1 0 rfl rfl 1 rfl (by decide) (by decide) dX8_isRank_7 ?_
  refine lv_iconst (v := 1) hx hb dX8_isRank_8 (by decide) ?_
  refine lv_isub hx hb dX8_isRank_9 ?_
  refine sp_callSz ⟨hx, hb, hml, hown, hts⟩ (kX8_within l p1 0 ((f_t_state 1) - 1)) (va_cwS 3 hts gX8_isRank_X8_within rfl rfl rfl hdX8_within.2 ⟨Nat.le_of_ble_eq_true rfl, Nat.le_of_ble_eq_true rfl⟩) rfl hl.1 rfl (Nat.le_of_ble_eq_true rfl) dX8_isRank_10 ⟨Nat.zero_le _, Nat.zero_le _⟩ (fun hb10 => ?_)
  subst hm
  exact ro_iret hx hb hr hb10 ⟨rfl, hb10⟩ dX8_isRank_13 hlocks
def mX8_nameValue (f_t_state : Nat → Int32) (p1 : Int32) (p2 : Int32) : Option (Int32) :=
  ((mX8_name f_t_state p1).bind fun r2 =>
  (if p2 = 0 then
    some (mX8_lettersOf r2)
  else
    (if p2 = 1 then
      some (mX8_lengthOf r2)
    else
      (if p2 = 2 then
        ((rdA 255 f_t_state (31 + p1)).bind fun r42 =>
        some r42)
      else
        ((mX8_roadsTo f_t_state r2).bind fun r48 =>
        some r48)))))
abbrev rmX8_nameValue : Room := { frames := 5, cells := 0, slots := 0, locals := 105 }
abbrev wX8_nameValue (cA : ClassId) (a_t a_t_state a_t_kept a_t_stack a_t_text : Nat) (v_t_thrown v_t_saved v_t_textLength v_t_place v_t_sign v_t_readLetters v_t_readLength v_t_readNumber : Int32) (f_t_state : Nat → Int32) : va_W := [(a_t, .inr (7, [.int v_t_thrown, .ref a_t_state, .ref a_t_kept, .ref a_t_stack, .int v_t_saved, .ref a_t_text, .int v_t_textLength, .int v_t_place, .int v_t_sign, .int v_t_readLetters, .int v_t_readLength, .int v_t_readNumber])), (a_t_state, .inl (cA, 255, .inl f_t_state))]
theorem iX8_nameValue_X8 : ∀ w ∈ wsX80, w ∈ wsX8_nameValue := (fun _ h => List.mem_cons_of_mem _ (List.mem_append_right _ h))
theorem hdX8_nameValue : yX8_nameValue.cls = RX8 ∧ yX8_nameValue.cls ≠ "java/lang/invoke/MethodHandle" ∧ yX8_nameValue.cls ≠ "java/lang/invoke/VarHandle" ∧ (parseMethodDescriptor yX8_nameValue.desc).map (fun d => d.parameters.length) = some 2 := by decide +kernel
set_option maxHeartbeats 4000000 in
set_option maxRecDepth 100000 in
theorem kX8_nameValue (l : Launch) (dC : Nat → ClassId) (dI : Nat → Nat → Nat) (cA : ClassId) (a_t a_t_state a_t_kept a_t_stack a_t_text : Nat) (v_t_thrown v_t_saved v_t_textLength v_t_place v_t_sign v_t_readLetters v_t_readLength v_t_readNumber : Int32) (f_t_state : Nat → Int32) (p1 p2 r : Int32) (hm : (mX8_nameValue f_t_state p1 p2) = some r) : Met l yX8_nameValue wsX8_nameValue rmX8_nameValue (rpc (dC, dI) [(cA, .int)] (wX8_nameValue cA a_t a_t_state a_t_kept a_t_stack a_t_text v_t_thrown v_t_saved v_t_textLength v_t_place v_t_sign v_t_readLetters v_t_readLength v_t_readNumber f_t_state) [.ref a_t, .int p1, .int p2]) (vp_Si (fun x => x = r)) 0 0 (fun _ => False) := by
  unfold mX8_nameValue at hm
  refine ro_ofW (cc := cX8_nameValue) (maxL := 4) (ret := (some .int)) (own := RX8) (by decide) rfl rfl (Nat.le_of_ble_eq_true rfl) ?_
  intro p e s m args below meth c hx hb hr hts hown hlocks hml hP hK ls hl
  have hl : lv_has ls 4 [(0, .ref a_t), (1, .int p1), (2, .int p2)] := hl
  have hP : va_P (dC, dI) vwCl [(a_t, .inr (7, [.int v_t_thrown, .ref a_t_state, .ref a_t_kept, .ref a_t_stack, .int v_t_saved, .ref a_t_text, .int v_t_textLength, .int v_t_place, .int v_t_sign, .int v_t_readLetters, .int v_t_readLength, .int v_t_readNumber])), (a_t_state, .inl (cA, 255, .inl f_t_state))] s.heap := hP
  refine lv_aload_n hx hb dX8_nameValue_0 rfl (lv_at hl 0 rfl) ?_
  refine lv_iload_n hx hb dX8_nameValue_1 rfl (lv_at hl 1 rfl) ?_
  obtain ⟨r2, e2, hm⟩ := bs hm
  try dsimp only at hm
  refine ro_callVe ⟨hx, hb, hml, hown, hts⟩ (kX8_name l dC dI cA a_t a_t_state a_t_kept a_t_stack a_t_text v_t_thrown v_t_saved v_t_textLength v_t_place v_t_sign v_t_readLetters v_t_readLength v_t_readNumber f_t_state p1 r2 e2) (cwV 1 hts gX8_nameValue_X8_name rfl rfl rfl hdX8_name ⟨Nat.le_of_ble_eq_true rfl, Nat.le_of_ble_eq_true rfl⟩) (hP.sub [0, 1] rfl) hK rfl rfl rfl hl.1 rfl (Nat.le_of_ble_eq_true rfl) dX8_nameValue_2 ⟨Nat.zero_le _, Nat.zero_le _⟩ ?_
  refine lv_istore_n (lv' := [(3, .int r2), (0, .ref a_t), (1, .int p1), (2, .int p2)]) hx hb dX8_nameValue_5 rfl hl (by decide) rfl (fun ls hl => ?_)
  refine lv_iload_n hx hb dX8_nameValue_6 rfl (lv_at hl 3 rfl) ?_
  refine lv_if_ne (tgt := 17) hx hb dX8_nameValue_7 (by decide) (fun c7 => ?_) (fun c7 => ?_)
  · rw [if_neg c7] at hm
    refine lv_iload_n hx hb dX8_nameValue_17 rfl (lv_at hl 3 rfl) ?_
    refine lv_iconst (v := 1) hx hb dX8_nameValue_18 (by decide) ?_
    refine lv_icmp_ne (tgt := 29) hx hb dX8_nameValue_19 (by decide) (fun c19 => ?_) (fun c19 => ?_)
    · rw [if_neg c19] at hm
      refine lv_iload_n hx hb dX8_nameValue_29 rfl (lv_at hl 3 rfl) ?_
      refine lv_iconst (v := 2) hx hb dX8_nameValue_30 (by decide) ?_
      refine lv_icmp_ne (tgt := 46) hx hb dX8_nameValue_31 (by decide) (fun c31 => ?_) (fun c31 => ?_)
      · rw [if_neg c31] at hm
        refine lv_aload_n hx hb dX8_nameValue_46 rfl (lv_at hl 1 rfl) ?_
        refine lv_iload_n hx hb dX8_nameValue_47 rfl (lv_at hl 0 rfl) ?_
        obtain ⟨r48, e48, hm⟩ := bs hm
        try dsimp only at hm
        refine ro_callVe ⟨hx, hb, hml, hown, hts⟩ (kX8_roadsTo l dC dI cA a_t a_t_state a_t_kept a_t_stack a_t_text v_t_thrown v_t_saved v_t_textLength v_t_place v_t_sign v_t_readLetters v_t_readLength v_t_readNumber f_t_state r2 r48 e48) (cwV 1 hts gX8_nameValue_X8_roadsTo rfl rfl rfl hdX8_roadsTo ⟨Nat.le_of_ble_eq_true rfl, Nat.le_of_ble_eq_true rfl⟩) (hP.sub [0, 1] rfl) hK rfl rfl rfl hl.1 rfl (Nat.le_of_ble_eq_true rfl) dX8_nameValue_48 ⟨Nat.zero_le _, Nat.zero_le _⟩ ?_
        cases hm
        exact ro_iret hx hb hr rfl rfl dX8_nameValue_51 hlocks
      · rw [if_pos c31] at hm
        refine lv_aload_n hx hb dX8_nameValue_34 rfl (lv_at hl 1 rfl) ?_
        refine va_get (D := (dC, dI)) (ci := 7) (C := RX8) (T := TX8) (N := 12) hx hb hts iX8_nameValue_X8 hown hK hP 0 rfl rfl 1 (by decide) (hts _ (List.mem_of_getElem? (i := 1) rfl)) (fun _ h9 => h9) rfl dX8_nameValue_35 ?_
        refine lv_bipush (v := 31) hx hb dX8_nameValue_38 (by decide) ?_
        refine lv_iload_n hx hb dX8_nameValue_40 rfl (lv_at hl 2 rfl) ?_
        refine lv_iadd hx hb dX8_nameValue_41 ?_
        obtain ⟨r42, e42, hm⟩ := bs hm
        try dsimp only at hm
        refine xa_ldO hx hb hK hP 1 0 rfl rfl e42 dX8_nameValue_42 ?_
        refine lv_goto (tgt := 51) hx hb dX8_nameValue_43 (by decide) ?_
        cases hm
        exact ro_iret hx hb hr rfl rfl dX8_nameValue_51 hlocks
    · rw [if_pos c19] at hm
      refine lv_iload_n hx hb dX8_nameValue_22 rfl (lv_at hl 0 rfl) ?_
      refine sp_callSe ⟨hx, hb, hml, hown, hts⟩ (kX8_lengthOf l r2) (va_cwS 1 hts gX8_nameValue_X8_lengthOf rfl rfl rfl hdX8_lengthOf.2 ⟨Nat.le_of_ble_eq_true rfl, Nat.le_of_ble_eq_true rfl⟩) rfl hl.1 rfl (Nat.le_of_ble_eq_true rfl) dX8_nameValue_23 ⟨Nat.zero_le _, Nat.zero_le _⟩ ?_
      refine lv_goto (tgt := 51) hx hb dX8_nameValue_26 (by decide) ?_
      cases hm
      exact ro_iret hx hb hr rfl rfl dX8_nameValue_51 hlocks
  · rw [if_pos c7] at hm
    refine lv_iload_n hx hb dX8_nameValue_10 rfl (lv_at hl 0 rfl) ?_
    refine sp_callSe ⟨hx, hb, hml, hown, hts⟩ (kX8_lettersOf l r2) (va_cwS 1 hts gX8_nameValue_X8_lettersOf rfl rfl rfl hdX8_lettersOf.2 ⟨Nat.le_of_ble_eq_true rfl, Nat.le_of_ble_eq_true rfl⟩) rfl hl.1 rfl (Nat.le_of_ble_eq_true rfl) dX8_nameValue_11 ⟨Nat.zero_le _, Nat.zero_le _⟩ ?_
    refine lv_goto (tgt := 51) hx hb dX8_nameValue_14 (by decide) ?_
    cases hm
    exact ro_iret hx hb hr rfl rfl dX8_nameValue_51 hlocks
def mX8_nth (f_t_state : Nat → Int32) (p1 : Int32) (p2 : Int32) : Option (Int32 × Int32) :=
  (if (if (mX8_isRank f_t_state p1) = 0 then 1 else (if (mX8_within p2 0 3) = 0 then (2 : Int32) else 0)) ≤ 0 then
    ((mX8_nameValue f_t_state p1 p2).bind fun r44 =>
    some (r44, (if (mX8_isRank f_t_state p1) = 0 then 1 else (if (mX8_within p2 0 3) = 0 then (2 : Int32) else 0))))
  else
    some (0, (if (mX8_isRank f_t_state p1) = 0 then 1 else (if (mX8_within p2 0 3) = 0 then (2 : Int32) else 0))))
abbrev rmX8_nth : Room := { frames := 6, cells := 0, slots := 0, locals := 128 }
abbrev wX8_nth (cA : ClassId) (a_t a_t_state a_t_kept a_t_stack a_t_text : Nat) (v_t_thrown v_t_saved v_t_textLength v_t_place v_t_sign v_t_readLetters v_t_readLength v_t_readNumber : Int32) (f_t_state : Nat → Int32) : va_W := [(a_t, .inr (7, [.int v_t_thrown, .ref a_t_state, .ref a_t_kept, .ref a_t_stack, .int v_t_saved, .ref a_t_text, .int v_t_textLength, .int v_t_place, .int v_t_sign, .int v_t_readLetters, .int v_t_readLength, .int v_t_readNumber])), (a_t_state, .inl (cA, 255, .inl f_t_state))]
theorem iX8_nth_X8 : ∀ w ∈ wsX80, w ∈ wsX8_nth := (fun _ h => List.mem_cons_of_mem _ (List.mem_append_right _ h))
theorem hdX8_nth : yX8_nth.cls = RX8 ∧ yX8_nth.cls ≠ "java/lang/invoke/MethodHandle" ∧ yX8_nth.cls ≠ "java/lang/invoke/VarHandle" ∧ (parseMethodDescriptor yX8_nth.desc).map (fun d => d.parameters.length) = some 2 := by decide +kernel
set_option maxHeartbeats 4000000 in
set_option maxRecDepth 100000 in
theorem kX8_nth (l : Launch) (dC : Nat → ClassId) (dI : Nat → Nat → Nat) (cA : ClassId) (a_t a_t_state a_t_kept a_t_stack a_t_text : Nat) (v_t_thrown v_t_saved v_t_textLength v_t_place v_t_sign v_t_readLetters v_t_readLength v_t_readNumber : Int32) (f_t_state : Nat → Int32) (p1 p2 : Int32) (sz : Nat) (r o_v_t_thrown : Int32) (hm : (mX8_nth f_t_state p1 p2) = some (r, o_v_t_thrown)) : Met l yX8_nth wsX8_nth rmX8_nth (mpc (dC, dI) [(cA, .int)] (wX8_nth cA a_t a_t_state a_t_kept a_t_stack a_t_text v_t_thrown v_t_saved v_t_textLength v_t_place v_t_sign v_t_readLetters v_t_readLength v_t_readNumber f_t_state) [.ref a_t, .int p1, .int p2] sz) (mqi (dC, dI) [(cA, .int)] (va_A (wX8_nth cA a_t a_t_state a_t_kept a_t_stack a_t_text v_t_thrown v_t_saved v_t_textLength v_t_place v_t_sign v_t_readLetters v_t_readLength v_t_readNumber f_t_state) sz) (wX8_nth cA a_t a_t_state a_t_kept a_t_stack a_t_text o_v_t_thrown v_t_saved v_t_textLength v_t_place v_t_sign v_t_readLetters v_t_readLength v_t_readNumber f_t_state) (fun x => x = r)) 0 0 (va_A (wX8_nth cA a_t a_t_state a_t_kept a_t_stack a_t_text v_t_thrown v_t_saved v_t_textLength v_t_place v_t_sign v_t_readLetters v_t_readLength v_t_readNumber f_t_state) sz) := by
  unfold mX8_nth at hm
  refine mu_ofW (Qc := fun A => mqi (dC, dI) [(cA, .int)] A (wX8_nth cA a_t a_t_state a_t_kept a_t_stack a_t_text o_v_t_thrown v_t_saved v_t_textLength v_t_place v_t_sign v_t_readLetters v_t_readLength v_t_readNumber f_t_state) (fun x => x = r)) (cc := cX8_nth) (maxL := 3) (ret := (some .int)) (own := RX8) (by decide) rfl rfl (Nat.le_of_ble_eq_true rfl) ?_
  intro p e s m args below meth c hx hb hr hts hown hlocks hml hin A hA hP hD hS hK ls hl
  have hl : lv_has ls 3 [(0, .ref a_t), (1, .int p1), (2, .int p2)] := hl
  have hP : va_P (dC, dI) vwCl [(a_t, .inr (7, [.int v_t_thrown, .ref a_t_state, .ref a_t_kept, .ref a_t_stack, .int v_t_saved, .ref a_t_text, .int v_t_textLength, .int v_t_place, .int v_t_sign, .int v_t_readLetters, .int v_t_readLength, .int v_t_readNumber])), (a_t_state, .inl (cA, 255, .inl f_t_state))] s.heap := hP
  have hD : va_D A [(a_t, .inr (7, [.int v_t_thrown, .ref a_t_state, .ref a_t_kept, .ref a_t_stack, .int v_t_saved, .ref a_t_text, .int v_t_textLength, .int v_t_place, .int v_t_sign, .int v_t_readLetters, .int v_t_readLength, .int v_t_readNumber])), (a_t_state, .inl (cA, 255, .inl f_t_state))] := hD
  refine lv_aload_n hx hb dX8_nth_0 rfl (lv_at hl 0 rfl) ?_
  refine lv_aload_n hx hb dX8_nth_1 rfl (lv_at hl 0 rfl) ?_
  refine lv_iload_n hx hb dX8_nth_2 rfl (lv_at hl 1 rfl) ?_
  refine ro_callVz ⟨hx, hb, hml, hown, hts⟩ (kX8_isRank l dC dI cA a_t a_t_state a_t_kept a_t_stack a_t_text v_t_thrown v_t_saved v_t_textLength v_t_place v_t_sign v_t_readLetters v_t_readLength v_t_readNumber f_t_state p1) (cwV 1 hts gX8_nth_X8_isRank rfl rfl rfl hdX8_isRank ⟨Nat.le_of_ble_eq_true rfl, Nat.le_of_ble_eq_true rfl⟩) (hP.sub [0, 1] rfl) hK rfl rfl rfl hl.1 rfl (Nat.le_of_ble_eq_true rfl) dX8_nth_3 ⟨Nat.zero_le _, Nat.zero_le _⟩ (fun hb3 => ?_)
  refine lv_if_ne (tgt := 13) hx hb dX8_nth_6 (by decide) (fun c6 => ?_) (fun c6 => ?_)
  · try simp only [if_neg c6] at hm
    refine lv_iload_n hx hb dX8_nth_13 rfl (lv_at hl 2 rfl) ?_
    refine lv_iconst (v := 0) hx hb dX8_nth_14 (by decide) ?_
    refine lv_iconst (v := 3) hx hb dX8_nth_15 (by decide) ?_
    refine sp_callSz ⟨hx, hb, hml, hown, hts⟩ (kX8_within l p2 0 3) (va_cwS 3 hts gX8_nth_X8_within rfl rfl rfl hdX8_within.2 ⟨Nat.le_of_ble_eq_true rfl, Nat.le_of_ble_eq_true rfl⟩) rfl hl.1 rfl (Nat.le_of_ble_eq_true rfl) dX8_nth_16 ⟨Nat.zero_le _, Nat.zero_le _⟩ (fun hb16 => ?_)
    refine lv_if_eq (tgt := 26) hx hb dX8_nth_19 (by decide) (fun c19 => ?_) (fun c19 => ?_)
    · try simp only [if_pos c19] at hm
      refine lv_iconst (v := 2) hx hb dX8_nth_26 (by decide) ?_
      refine va_put (D := (dC, dI)) (ci := 7) (C := RX8) (T := TX8) (N := 12) (ty := .int) hx hb hts iX8_nth_X8 tyX8 tyX8_ok nmX8 hown hK hP hD hS 0 rfl rfl 0 (by decide) (hts _ (List.mem_of_getElem? (i := 1) rfl)) (fun _ h9 => h9) rfl (by decide +kernel) rfl rfl (Nat.le_of_ble_eq_true rfl) dX8_nth_27 (fun H locs hP hD hS => ?_)
      have hP : va_P (dC, dI) vwCl [(a_t, .inr (7, [.int 2, .ref a_t_state, .ref a_t_kept, .ref a_t_stack, .int v_t_saved, .ref a_t_text, .int v_t_textLength, .int v_t_place, .int v_t_sign, .int v_t_readLetters, .int v_t_readLength, .int v_t_readNumber])), (a_t_state, .inl (cA, 255, .inl f_t_state))] H := hP
      have hD : va_D A [(a_t, .inr (7, [.int 2, .ref a_t_state, .ref a_t_kept, .ref a_t_stack, .int v_t_saved, .ref a_t_text, .int v_t_textLength, .int v_t_place, .int v_t_sign, .int v_t_readLetters, .int v_t_readLength, .int v_t_readNumber])), (a_t_state, .inl (cA, 255, .inl f_t_state))] := hD
      refine lv_aload_n hx hb dX8_nth_30 rfl (lv_at hl 0 rfl) ?_
      refine va_get (D := (dC, dI)) (ci := 7) (C := RX8) (T := TX8) (N := 12) hx hb hts iX8_nth_X8 hown hK hP 0 rfl rfl 0 (by decide) (hts _ (List.mem_of_getElem? (i := 1) rfl)) (fun _ h9 => h9) rfl dX8_nth_31 ?_
      refine lv_if_le (tgt := 41) hx hb dX8_nth_34 (by decide) (fun c34 => absurd c34 (by decide)) (fun c34 => ?_)
      try rw [if_neg (show ¬ ((2 : Int32) ≤ 0) by decide)] at hm
      refine lv_iconst (v := 0) hx hb dX8_nth_37 (by decide) ?_
      refine lv_goto (tgt := 47) hx hb dX8_nth_38 (by decide) ?_
      cases hm
      exact mu_iret hx hb hr rfl rfl hP hD hS hK [0, 1] rfl (by decide) dX8_nth_47 hlocks
    · try simp only [if_neg c19] at hm
      refine lv_iconst (v := 0) hx hb dX8_nth_22 (by decide) ?_
      refine lv_goto (tgt := 27) hx hb dX8_nth_23 (by decide) ?_
      refine va_put (D := (dC, dI)) (ci := 7) (C := RX8) (T := TX8) (N := 12) (ty := .int) hx hb hts iX8_nth_X8 tyX8 tyX8_ok nmX8 hown hK hP hD hS 0 rfl rfl 0 (by decide) (hts _ (List.mem_of_getElem? (i := 1) rfl)) (fun _ h9 => h9) rfl (by decide +kernel) rfl rfl (Nat.le_of_ble_eq_true rfl) dX8_nth_27 (fun H locs hP hD hS => ?_)
      have hP : va_P (dC, dI) vwCl [(a_t, .inr (7, [.int 0, .ref a_t_state, .ref a_t_kept, .ref a_t_stack, .int v_t_saved, .ref a_t_text, .int v_t_textLength, .int v_t_place, .int v_t_sign, .int v_t_readLetters, .int v_t_readLength, .int v_t_readNumber])), (a_t_state, .inl (cA, 255, .inl f_t_state))] H := hP
      have hD : va_D A [(a_t, .inr (7, [.int 0, .ref a_t_state, .ref a_t_kept, .ref a_t_stack, .int v_t_saved, .ref a_t_text, .int v_t_textLength, .int v_t_place, .int v_t_sign, .int v_t_readLetters, .int v_t_readLength, .int v_t_readNumber])), (a_t_state, .inl (cA, 255, .inl f_t_state))] := hD
      refine lv_aload_n hx hb dX8_nth_30 rfl (lv_at hl 0 rfl) ?_
      refine va_get (D := (dC, dI)) (ci := 7) (C := RX8) (T := TX8) (N := 12) hx hb hts iX8_nth_X8 hown hK hP 0 rfl rfl 0 (by decide) (hts _ (List.mem_of_getElem? (i := 1) rfl)) (fun _ h9 => h9) rfl dX8_nth_31 ?_
      refine lv_if_le (tgt := 41) hx hb dX8_nth_34 (by decide) (fun c34 => ?_) (fun c34 => absurd c34 (by decide))
      try rw [if_pos (show (0 : Int32) ≤ 0 by decide)] at hm
      refine lv_aload_n hx hb dX8_nth_41 rfl (lv_at hl 0 rfl) ?_
      refine lv_iload_n hx hb dX8_nth_42 rfl (lv_at hl 1 rfl) ?_
      refine lv_iload_n hx hb dX8_nth_43 rfl (lv_at hl 2 rfl) ?_
      obtain ⟨r44, e44, hm⟩ := bs hm
      try dsimp only at hm
      refine ro_callVe ⟨hx, hb, hml, hown, hts⟩ (kX8_nameValue l dC dI cA a_t a_t_state a_t_kept a_t_stack a_t_text 0 v_t_saved v_t_textLength v_t_place v_t_sign v_t_readLetters v_t_readLength v_t_readNumber f_t_state p1 p2 r44 e44) (cwV 2 hts gX8_nth_X8_nameValue rfl rfl rfl hdX8_nameValue ⟨Nat.le_of_ble_eq_true rfl, Nat.le_of_ble_eq_true rfl⟩) (hP.sub [0, 1] rfl) hK rfl rfl rfl hl.1 rfl (Nat.le_of_ble_eq_true rfl) dX8_nth_44 ⟨Nat.zero_le _, Nat.zero_le _⟩ ?_
      cases hm
      exact mu_iret hx hb hr rfl rfl hP hD hS hK [0, 1] rfl (by decide) dX8_nth_47 hlocks
  · try simp only [if_pos c6] at hm
    refine lv_iconst (v := 1) hx hb dX8_nth_9 (by decide) ?_
    refine lv_goto (tgt := 27) hx hb dX8_nth_10 (by decide) ?_
    refine va_put (D := (dC, dI)) (ci := 7) (C := RX8) (T := TX8) (N := 12) (ty := .int) hx hb hts iX8_nth_X8 tyX8 tyX8_ok nmX8 hown hK hP hD hS 0 rfl rfl 0 (by decide) (hts _ (List.mem_of_getElem? (i := 1) rfl)) (fun _ h9 => h9) rfl (by decide +kernel) rfl rfl (Nat.le_of_ble_eq_true rfl) dX8_nth_27 (fun H locs hP hD hS => ?_)
    have hP : va_P (dC, dI) vwCl [(a_t, .inr (7, [.int 1, .ref a_t_state, .ref a_t_kept, .ref a_t_stack, .int v_t_saved, .ref a_t_text, .int v_t_textLength, .int v_t_place, .int v_t_sign, .int v_t_readLetters, .int v_t_readLength, .int v_t_readNumber])), (a_t_state, .inl (cA, 255, .inl f_t_state))] H := hP
    have hD : va_D A [(a_t, .inr (7, [.int 1, .ref a_t_state, .ref a_t_kept, .ref a_t_stack, .int v_t_saved, .ref a_t_text, .int v_t_textLength, .int v_t_place, .int v_t_sign, .int v_t_readLetters, .int v_t_readLength, .int v_t_readNumber])), (a_t_state, .inl (cA, 255, .inl f_t_state))] := hD
    refine lv_aload_n hx hb dX8_nth_30 rfl (lv_at hl 0 rfl) ?_
    refine va_get (D := (dC, dI)) (ci := 7) (C := RX8) (T := TX8) (N := 12) hx hb hts iX8_nth_X8 hown hK hP 0 rfl rfl 0 (by decide) (hts _ (List.mem_of_getElem? (i := 1) rfl)) (fun _ h9 => h9) rfl dX8_nth_31 ?_
    refine lv_if_le (tgt := 41) hx hb dX8_nth_34 (by decide) (fun c34 => absurd c34 (by decide)) (fun c34 => ?_)
    try rw [if_neg (show ¬ ((1 : Int32) ≤ 0) by decide)] at hm
    refine lv_iconst (v := 0) hx hb dX8_nth_37 (by decide) ?_
    refine lv_goto (tgt := 47) hx hb dX8_nth_38 (by decide) ?_
    cases hm
    exact mu_iret hx hb hr rfl rfl hP hD hS hK [0, 1] rfl (by decide) dX8_nth_47 hlocks
def mX8_weight (f_t_state : Nat → Int32) (p1 : Int32) (p2 : Int32) : Option (Int32 × Int32) :=
  (if (if (mX8_isPrefix p1 p2 1) = 0 then (1 : Int32) else 0) ≤ 0 then
    ((mX8_findName f_t_state (mX8_code p1 p2)).bind fun r33 =>
    (if r33 = (-1) then
      some ((-1), (if (mX8_isPrefix p1 p2 1) = 0 then (1 : Int32) else 0))
    else
      ((rdA 255 f_t_state (31 + r33)).bind fun r54 =>
      some (r54, (if (mX8_isPrefix p1 p2 1) = 0 then (1 : Int32) else 0)))))
  else
    some (0, (if (mX8_isPrefix p1 p2 1) = 0 then (1 : Int32) else 0)))
abbrev rmX8_weight : Room := { frames := 3, cells := 0, slots := 0, locals := 66 }
abbrev wX8_weight (cA : ClassId) (a_t a_t_state a_t_kept a_t_stack a_t_text : Nat) (v_t_thrown v_t_saved v_t_textLength v_t_place v_t_sign v_t_readLetters v_t_readLength v_t_readNumber : Int32) (f_t_state : Nat → Int32) : va_W := [(a_t, .inr (7, [.int v_t_thrown, .ref a_t_state, .ref a_t_kept, .ref a_t_stack, .int v_t_saved, .ref a_t_text, .int v_t_textLength, .int v_t_place, .int v_t_sign, .int v_t_readLetters, .int v_t_readLength, .int v_t_readNumber])), (a_t_state, .inl (cA, 255, .inl f_t_state))]
theorem iX8_weight_X8 : ∀ w ∈ wsX80, w ∈ wsX8_weight := (fun _ h => List.mem_cons_of_mem _ (List.mem_append_right _ h))
theorem hdX8_weight : yX8_weight.cls = RX8 ∧ yX8_weight.cls ≠ "java/lang/invoke/MethodHandle" ∧ yX8_weight.cls ≠ "java/lang/invoke/VarHandle" ∧ (parseMethodDescriptor yX8_weight.desc).map (fun d => d.parameters.length) = some 2 := by decide +kernel
set_option maxHeartbeats 4000000 in
set_option maxRecDepth 100000 in
theorem kX8_weight (l : Launch) (dC : Nat → ClassId) (dI : Nat → Nat → Nat) (cA : ClassId) (a_t a_t_state a_t_kept a_t_stack a_t_text : Nat) (v_t_thrown v_t_saved v_t_textLength v_t_place v_t_sign v_t_readLetters v_t_readLength v_t_readNumber : Int32) (f_t_state : Nat → Int32) (p1 p2 : Int32) (sz : Nat) (r o_v_t_thrown : Int32) (hm : (mX8_weight f_t_state p1 p2) = some (r, o_v_t_thrown)) : Met l yX8_weight wsX8_weight rmX8_weight (mpc (dC, dI) [(cA, .int)] (wX8_weight cA a_t a_t_state a_t_kept a_t_stack a_t_text v_t_thrown v_t_saved v_t_textLength v_t_place v_t_sign v_t_readLetters v_t_readLength v_t_readNumber f_t_state) [.ref a_t, .int p1, .int p2] sz) (mqi (dC, dI) [(cA, .int)] (va_A (wX8_weight cA a_t a_t_state a_t_kept a_t_stack a_t_text v_t_thrown v_t_saved v_t_textLength v_t_place v_t_sign v_t_readLetters v_t_readLength v_t_readNumber f_t_state) sz) (wX8_weight cA a_t a_t_state a_t_kept a_t_stack a_t_text o_v_t_thrown v_t_saved v_t_textLength v_t_place v_t_sign v_t_readLetters v_t_readLength v_t_readNumber f_t_state) (fun x => x = r)) 0 0 (va_A (wX8_weight cA a_t a_t_state a_t_kept a_t_stack a_t_text v_t_thrown v_t_saved v_t_textLength v_t_place v_t_sign v_t_readLetters v_t_readLength v_t_readNumber f_t_state) sz) := by
  unfold mX8_weight at hm
  refine mu_ofW (Qc := fun A => mqi (dC, dI) [(cA, .int)] A (wX8_weight cA a_t a_t_state a_t_kept a_t_stack a_t_text o_v_t_thrown v_t_saved v_t_textLength v_t_place v_t_sign v_t_readLetters v_t_readLength v_t_readNumber f_t_state) (fun x => x = r)) (cc := cX8_weight) (maxL := 4) (ret := (some .int)) (own := RX8) (by decide) rfl rfl (Nat.le_of_ble_eq_true rfl) ?_
  intro p e s m args below meth c hx hb hr hts hown hlocks hml hin A hA hP hD hS hK ls hl
  have hl : lv_has ls 4 [(0, .ref a_t), (1, .int p1), (2, .int p2)] := hl
  have hP : va_P (dC, dI) vwCl [(a_t, .inr (7, [.int v_t_thrown, .ref a_t_state, .ref a_t_kept, .ref a_t_stack, .int v_t_saved, .ref a_t_text, .int v_t_textLength, .int v_t_place, .int v_t_sign, .int v_t_readLetters, .int v_t_readLength, .int v_t_readNumber])), (a_t_state, .inl (cA, 255, .inl f_t_state))] s.heap := hP
  have hD : va_D A [(a_t, .inr (7, [.int v_t_thrown, .ref a_t_state, .ref a_t_kept, .ref a_t_stack, .int v_t_saved, .ref a_t_text, .int v_t_textLength, .int v_t_place, .int v_t_sign, .int v_t_readLetters, .int v_t_readLength, .int v_t_readNumber])), (a_t_state, .inl (cA, 255, .inl f_t_state))] := hD
  refine lv_aload_n hx hb dX8_weight_0 rfl (lv_at hl 0 rfl) ?_
  refine lv_iload_n hx hb dX8_weight_1 rfl (lv_at hl 1 rfl) ?_
  refine lv_iload_n hx hb dX8_weight_2 rfl (lv_at hl 2 rfl) ?_
  refine lv_iconst (v := 1) hx hb dX8_weight_3 (by decide) ?_
  refine sp_callSz ⟨hx, hb, hml, hown, hts⟩ (kX8_isPrefix l p1 p2 1) (va_cwS 3 hts gX8_weight_X8_isPrefix rfl rfl rfl hdX8_isPrefix.2 ⟨Nat.le_of_ble_eq_true rfl, Nat.le_of_ble_eq_true rfl⟩) rfl hl.1 rfl (Nat.le_of_ble_eq_true rfl) dX8_weight_4 ⟨Nat.zero_le _, Nat.zero_le _⟩ (fun hb4 => ?_)
  refine lv_if_eq (tgt := 14) hx hb dX8_weight_7 (by decide) (fun c7 => ?_) (fun c7 => ?_)
  · try simp only [if_pos c7] at hm
    refine lv_iconst (v := 1) hx hb dX8_weight_14 (by decide) ?_
    refine va_put (D := (dC, dI)) (ci := 7) (C := RX8) (T := TX8) (N := 12) (ty := .int) hx hb hts iX8_weight_X8 tyX8 tyX8_ok nmX8 hown hK hP hD hS 0 rfl rfl 0 (by decide) (hts _ (List.mem_of_getElem? (i := 1) rfl)) (fun _ h9 => h9) rfl (by decide +kernel) rfl rfl (Nat.le_of_ble_eq_true rfl) dX8_weight_15 (fun H locs hP hD hS => ?_)
    have hP : va_P (dC, dI) vwCl [(a_t, .inr (7, [.int 1, .ref a_t_state, .ref a_t_kept, .ref a_t_stack, .int v_t_saved, .ref a_t_text, .int v_t_textLength, .int v_t_place, .int v_t_sign, .int v_t_readLetters, .int v_t_readLength, .int v_t_readNumber])), (a_t_state, .inl (cA, 255, .inl f_t_state))] H := hP
    have hD : va_D A [(a_t, .inr (7, [.int 1, .ref a_t_state, .ref a_t_kept, .ref a_t_stack, .int v_t_saved, .ref a_t_text, .int v_t_textLength, .int v_t_place, .int v_t_sign, .int v_t_readLetters, .int v_t_readLength, .int v_t_readNumber])), (a_t_state, .inl (cA, 255, .inl f_t_state))] := hD
    refine lv_aload_n hx hb dX8_weight_18 rfl (lv_at hl 0 rfl) ?_
    refine va_get (D := (dC, dI)) (ci := 7) (C := RX8) (T := TX8) (N := 12) hx hb hts iX8_weight_X8 hown hK hP 0 rfl rfl 0 (by decide) (hts _ (List.mem_of_getElem? (i := 1) rfl)) (fun _ h9 => h9) rfl dX8_weight_19 ?_
    refine lv_if_le (tgt := 27) hx hb dX8_weight_22 (by decide) (fun c22 => absurd c22 (by decide)) (fun c22 => ?_)
    try rw [if_neg (show ¬ ((1 : Int32) ≤ 0) by decide)] at hm
    refine lv_iconst (v := 0) hx hb dX8_weight_25 (by decide) ?_
    cases hm
    exact mu_iret hx hb hr rfl rfl hP hD hS hK [0, 1] rfl (by decide) dX8_weight_26 hlocks
  · try simp only [if_neg c7] at hm
    refine lv_iconst (v := 0) hx hb dX8_weight_10 (by decide) ?_
    refine lv_goto (tgt := 15) hx hb dX8_weight_11 (by decide) ?_
    refine va_put (D := (dC, dI)) (ci := 7) (C := RX8) (T := TX8) (N := 12) (ty := .int) hx hb hts iX8_weight_X8 tyX8 tyX8_ok nmX8 hown hK hP hD hS 0 rfl rfl 0 (by decide) (hts _ (List.mem_of_getElem? (i := 1) rfl)) (fun _ h9 => h9) rfl (by decide +kernel) rfl rfl (Nat.le_of_ble_eq_true rfl) dX8_weight_15 (fun H locs hP hD hS => ?_)
    have hP : va_P (dC, dI) vwCl [(a_t, .inr (7, [.int 0, .ref a_t_state, .ref a_t_kept, .ref a_t_stack, .int v_t_saved, .ref a_t_text, .int v_t_textLength, .int v_t_place, .int v_t_sign, .int v_t_readLetters, .int v_t_readLength, .int v_t_readNumber])), (a_t_state, .inl (cA, 255, .inl f_t_state))] H := hP
    have hD : va_D A [(a_t, .inr (7, [.int 0, .ref a_t_state, .ref a_t_kept, .ref a_t_stack, .int v_t_saved, .ref a_t_text, .int v_t_textLength, .int v_t_place, .int v_t_sign, .int v_t_readLetters, .int v_t_readLength, .int v_t_readNumber])), (a_t_state, .inl (cA, 255, .inl f_t_state))] := hD
    refine lv_aload_n hx hb dX8_weight_18 rfl (lv_at hl 0 rfl) ?_
    refine va_get (D := (dC, dI)) (ci := 7) (C := RX8) (T := TX8) (N := 12) hx hb hts iX8_weight_X8 hown hK hP 0 rfl rfl 0 (by decide) (hts _ (List.mem_of_getElem? (i := 1) rfl)) (fun _ h9 => h9) rfl dX8_weight_19 ?_
    refine lv_if_le (tgt := 27) hx hb dX8_weight_22 (by decide) (fun c22 => ?_) (fun c22 => absurd c22 (by decide))
    try rw [if_pos (show (0 : Int32) ≤ 0 by decide)] at hm
    refine lv_aload_n hx hb dX8_weight_27 rfl (lv_at hl 0 rfl) ?_
    refine lv_iload_n hx hb dX8_weight_28 rfl (lv_at hl 1 rfl) ?_
    refine lv_iload_n hx hb dX8_weight_29 rfl (lv_at hl 2 rfl) ?_
    refine sp_callSe ⟨hx, hb, hml, hown, hts⟩ (kX8_code l p1 p2) (va_cwS 2 hts gX8_weight_X8_code rfl rfl rfl hdX8_code.2 ⟨Nat.le_of_ble_eq_true rfl, Nat.le_of_ble_eq_true rfl⟩) rfl hl.1 rfl (Nat.le_of_ble_eq_true rfl) dX8_weight_30 ⟨Nat.zero_le _, Nat.zero_le _⟩ ?_
    obtain ⟨r33, e33, hm⟩ := bs hm
    try dsimp only at hm
    refine ro_callVe ⟨hx, hb, hml, hown, hts⟩ (kX8_findName l dC dI cA a_t a_t_state a_t_kept a_t_stack a_t_text 0 v_t_saved v_t_textLength v_t_place v_t_sign v_t_readLetters v_t_readLength v_t_readNumber f_t_state (mX8_code p1 p2) r33 e33) (cwV 1 hts gX8_weight_X8_findName rfl rfl rfl hdX8_findName ⟨Nat.le_of_ble_eq_true rfl, Nat.le_of_ble_eq_true rfl⟩) (hP.sub [0, 1] rfl) hK rfl rfl rfl hl.1 rfl (Nat.le_of_ble_eq_true rfl) dX8_weight_33 ⟨Nat.zero_le _, Nat.zero_le _⟩ ?_
    refine lv_istore_n (lv' := [(3, .int r33), (0, .ref a_t), (1, .int p1), (2, .int p2)]) hx hb dX8_weight_36 rfl hl (by decide) rfl (fun ls hl => ?_)
    refine lv_iload_n hx hb dX8_weight_37 rfl (lv_at hl 0 rfl) ?_
    refine lv_iconst (v := (-1)) hx hb dX8_weight_38 (by decide) ?_
    refine lv_icmp_ne (tgt := 46) hx hb dX8_weight_39 (by decide) (fun c39 => ?_) (fun c39 => ?_)
    · rw [if_neg c39] at hm
      refine lv_aload_n hx hb dX8_weight_46 rfl (lv_at hl 1 rfl) ?_
      refine va_get (D := (dC, dI)) (ci := 7) (C := RX8) (T := TX8) (N := 12) hx hb hts iX8_weight_X8 hown hK hP 0 rfl rfl 1 (by decide) (hts _ (List.mem_of_getElem? (i := 2) rfl)) (fun _ h9 => h9) rfl dX8_weight_47 ?_
      refine lv_bipush (v := 31) hx hb dX8_weight_50 (by decide) ?_
      refine lv_iload_n hx hb dX8_weight_52 rfl (lv_at hl 0 rfl) ?_
      refine lv_iadd hx hb dX8_weight_53 ?_
      obtain ⟨r54, e54, hm⟩ := bs hm
      try dsimp only at hm
      refine xa_ldO hx hb hK hP 1 0 rfl rfl e54 dX8_weight_54 ?_
      cases hm
      exact mu_iret hx hb hr rfl rfl hP hD hS hK [0, 1] rfl (by decide) dX8_weight_55 hlocks
    · rw [if_pos c39] at hm
      refine lv_iconst (v := (-1)) hx hb dX8_weight_42 (by decide) ?_
      refine lv_goto (tgt := 55) hx hb dX8_weight_43 (by decide) ?_
      cases hm
      exact mu_iret hx hb hr rfl rfl hP hD hS hK [0, 1] rfl (by decide) dX8_weight_55 hlocks
def mX8_count (f_t_state : Nat → Int32) (p1 : Int32) (p2 : Int32) : Option (Int32 × Int32) :=
  (if (if (mX8_isPrefix p1 p2 0) = 0 then (1 : Int32) else 0) ≤ 0 then
    ((mX8_countBelow f_t_state (mX8_code p1 p2)).bind fun r35 =>
    some (r35, (if (mX8_isPrefix p1 p2 0) = 0 then (1 : Int32) else 0)))
  else
    some (0, (if (mX8_isPrefix p1 p2 0) = 0 then (1 : Int32) else 0)))
abbrev rmX8_count : Room := { frames := 5, cells := 0, slots := 0, locals := 105 }
abbrev wX8_count (cA : ClassId) (a_t a_t_state a_t_kept a_t_stack a_t_text : Nat) (v_t_thrown v_t_saved v_t_textLength v_t_place v_t_sign v_t_readLetters v_t_readLength v_t_readNumber : Int32) (f_t_state : Nat → Int32) : va_W := [(a_t, .inr (7, [.int v_t_thrown, .ref a_t_state, .ref a_t_kept, .ref a_t_stack, .int v_t_saved, .ref a_t_text, .int v_t_textLength, .int v_t_place, .int v_t_sign, .int v_t_readLetters, .int v_t_readLength, .int v_t_readNumber])), (a_t_state, .inl (cA, 255, .inl f_t_state))]
theorem iX8_count_X8 : ∀ w ∈ wsX80, w ∈ wsX8_count := (fun _ h => List.mem_cons_of_mem _ (List.mem_append_right _ h))
theorem hdX8_count : yX8_count.cls = RX8 ∧ yX8_count.cls ≠ "java/lang/invoke/MethodHandle" ∧ yX8_count.cls ≠ "java/lang/invoke/VarHandle" ∧ (parseMethodDescriptor yX8_count.desc).map (fun d => d.parameters.length) = some 2 := by decide +kernel
set_option maxHeartbeats 4000000 in
set_option maxRecDepth 100000 in
theorem kX8_count (l : Launch) (dC : Nat → ClassId) (dI : Nat → Nat → Nat) (cA : ClassId) (a_t a_t_state a_t_kept a_t_stack a_t_text : Nat) (v_t_thrown v_t_saved v_t_textLength v_t_place v_t_sign v_t_readLetters v_t_readLength v_t_readNumber : Int32) (f_t_state : Nat → Int32) (p1 p2 : Int32) (sz : Nat) (r o_v_t_thrown : Int32) (hm : (mX8_count f_t_state p1 p2) = some (r, o_v_t_thrown)) : Met l yX8_count wsX8_count rmX8_count (mpc (dC, dI) [(cA, .int)] (wX8_count cA a_t a_t_state a_t_kept a_t_stack a_t_text v_t_thrown v_t_saved v_t_textLength v_t_place v_t_sign v_t_readLetters v_t_readLength v_t_readNumber f_t_state) [.ref a_t, .int p1, .int p2] sz) (mqi (dC, dI) [(cA, .int)] (va_A (wX8_count cA a_t a_t_state a_t_kept a_t_stack a_t_text v_t_thrown v_t_saved v_t_textLength v_t_place v_t_sign v_t_readLetters v_t_readLength v_t_readNumber f_t_state) sz) (wX8_count cA a_t a_t_state a_t_kept a_t_stack a_t_text o_v_t_thrown v_t_saved v_t_textLength v_t_place v_t_sign v_t_readLetters v_t_readLength v_t_readNumber f_t_state) (fun x => x = r)) 0 0 (va_A (wX8_count cA a_t a_t_state a_t_kept a_t_stack a_t_text v_t_thrown v_t_saved v_t_textLength v_t_place v_t_sign v_t_readLetters v_t_readLength v_t_readNumber f_t_state) sz) := by
  unfold mX8_count at hm
  refine mu_ofW (Qc := fun A => mqi (dC, dI) [(cA, .int)] A (wX8_count cA a_t a_t_state a_t_kept a_t_stack a_t_text o_v_t_thrown v_t_saved v_t_textLength v_t_place v_t_sign v_t_readLetters v_t_readLength v_t_readNumber f_t_state) (fun x => x = r)) (cc := cX8_count) (maxL := 3) (ret := (some .int)) (own := RX8) (by decide) rfl rfl (Nat.le_of_ble_eq_true rfl) ?_
  intro p e s m args below meth c hx hb hr hts hown hlocks hml hin A hA hP hD hS hK ls hl
  have hl : lv_has ls 3 [(0, .ref a_t), (1, .int p1), (2, .int p2)] := hl
  have hP : va_P (dC, dI) vwCl [(a_t, .inr (7, [.int v_t_thrown, .ref a_t_state, .ref a_t_kept, .ref a_t_stack, .int v_t_saved, .ref a_t_text, .int v_t_textLength, .int v_t_place, .int v_t_sign, .int v_t_readLetters, .int v_t_readLength, .int v_t_readNumber])), (a_t_state, .inl (cA, 255, .inl f_t_state))] s.heap := hP
  have hD : va_D A [(a_t, .inr (7, [.int v_t_thrown, .ref a_t_state, .ref a_t_kept, .ref a_t_stack, .int v_t_saved, .ref a_t_text, .int v_t_textLength, .int v_t_place, .int v_t_sign, .int v_t_readLetters, .int v_t_readLength, .int v_t_readNumber])), (a_t_state, .inl (cA, 255, .inl f_t_state))] := hD
  refine lv_aload_n hx hb dX8_count_0 rfl (lv_at hl 0 rfl) ?_
  refine lv_iload_n hx hb dX8_count_1 rfl (lv_at hl 1 rfl) ?_
  refine lv_iload_n hx hb dX8_count_2 rfl (lv_at hl 2 rfl) ?_
  refine lv_iconst (v := 0) hx hb dX8_count_3 (by decide) ?_
  refine sp_callSz ⟨hx, hb, hml, hown, hts⟩ (kX8_isPrefix l p1 p2 0) (va_cwS 3 hts gX8_count_X8_isPrefix rfl rfl rfl hdX8_isPrefix.2 ⟨Nat.le_of_ble_eq_true rfl, Nat.le_of_ble_eq_true rfl⟩) rfl hl.1 rfl (Nat.le_of_ble_eq_true rfl) dX8_count_4 ⟨Nat.zero_le _, Nat.zero_le _⟩ (fun hb4 => ?_)
  refine lv_if_eq (tgt := 14) hx hb dX8_count_7 (by decide) (fun c7 => ?_) (fun c7 => ?_)
  · try simp only [if_pos c7] at hm
    refine lv_iconst (v := 1) hx hb dX8_count_14 (by decide) ?_
    refine va_put (D := (dC, dI)) (ci := 7) (C := RX8) (T := TX8) (N := 12) (ty := .int) hx hb hts iX8_count_X8 tyX8 tyX8_ok nmX8 hown hK hP hD hS 0 rfl rfl 0 (by decide) (hts _ (List.mem_of_getElem? (i := 1) rfl)) (fun _ h9 => h9) rfl (by decide +kernel) rfl rfl (Nat.le_of_ble_eq_true rfl) dX8_count_15 (fun H locs hP hD hS => ?_)
    have hP : va_P (dC, dI) vwCl [(a_t, .inr (7, [.int 1, .ref a_t_state, .ref a_t_kept, .ref a_t_stack, .int v_t_saved, .ref a_t_text, .int v_t_textLength, .int v_t_place, .int v_t_sign, .int v_t_readLetters, .int v_t_readLength, .int v_t_readNumber])), (a_t_state, .inl (cA, 255, .inl f_t_state))] H := hP
    have hD : va_D A [(a_t, .inr (7, [.int 1, .ref a_t_state, .ref a_t_kept, .ref a_t_stack, .int v_t_saved, .ref a_t_text, .int v_t_textLength, .int v_t_place, .int v_t_sign, .int v_t_readLetters, .int v_t_readLength, .int v_t_readNumber])), (a_t_state, .inl (cA, 255, .inl f_t_state))] := hD
    refine lv_aload_n hx hb dX8_count_18 rfl (lv_at hl 0 rfl) ?_
    refine va_get (D := (dC, dI)) (ci := 7) (C := RX8) (T := TX8) (N := 12) hx hb hts iX8_count_X8 hown hK hP 0 rfl rfl 0 (by decide) (hts _ (List.mem_of_getElem? (i := 1) rfl)) (fun _ h9 => h9) rfl dX8_count_19 ?_
    refine lv_if_le (tgt := 29) hx hb dX8_count_22 (by decide) (fun c22 => absurd c22 (by decide)) (fun c22 => ?_)
    try rw [if_neg (show ¬ ((1 : Int32) ≤ 0) by decide)] at hm
    refine lv_iconst (v := 0) hx hb dX8_count_25 (by decide) ?_
    refine lv_goto (tgt := 38) hx hb dX8_count_26 (by decide) ?_
    cases hm
    exact mu_iret hx hb hr rfl rfl hP hD hS hK [0, 1] rfl (by decide) dX8_count_38 hlocks
  · try simp only [if_neg c7] at hm
    refine lv_iconst (v := 0) hx hb dX8_count_10 (by decide) ?_
    refine lv_goto (tgt := 15) hx hb dX8_count_11 (by decide) ?_
    refine va_put (D := (dC, dI)) (ci := 7) (C := RX8) (T := TX8) (N := 12) (ty := .int) hx hb hts iX8_count_X8 tyX8 tyX8_ok nmX8 hown hK hP hD hS 0 rfl rfl 0 (by decide) (hts _ (List.mem_of_getElem? (i := 1) rfl)) (fun _ h9 => h9) rfl (by decide +kernel) rfl rfl (Nat.le_of_ble_eq_true rfl) dX8_count_15 (fun H locs hP hD hS => ?_)
    have hP : va_P (dC, dI) vwCl [(a_t, .inr (7, [.int 0, .ref a_t_state, .ref a_t_kept, .ref a_t_stack, .int v_t_saved, .ref a_t_text, .int v_t_textLength, .int v_t_place, .int v_t_sign, .int v_t_readLetters, .int v_t_readLength, .int v_t_readNumber])), (a_t_state, .inl (cA, 255, .inl f_t_state))] H := hP
    have hD : va_D A [(a_t, .inr (7, [.int 0, .ref a_t_state, .ref a_t_kept, .ref a_t_stack, .int v_t_saved, .ref a_t_text, .int v_t_textLength, .int v_t_place, .int v_t_sign, .int v_t_readLetters, .int v_t_readLength, .int v_t_readNumber])), (a_t_state, .inl (cA, 255, .inl f_t_state))] := hD
    refine lv_aload_n hx hb dX8_count_18 rfl (lv_at hl 0 rfl) ?_
    refine va_get (D := (dC, dI)) (ci := 7) (C := RX8) (T := TX8) (N := 12) hx hb hts iX8_count_X8 hown hK hP 0 rfl rfl 0 (by decide) (hts _ (List.mem_of_getElem? (i := 1) rfl)) (fun _ h9 => h9) rfl dX8_count_19 ?_
    refine lv_if_le (tgt := 29) hx hb dX8_count_22 (by decide) (fun c22 => ?_) (fun c22 => absurd c22 (by decide))
    try rw [if_pos (show (0 : Int32) ≤ 0 by decide)] at hm
    refine lv_aload_n hx hb dX8_count_29 rfl (lv_at hl 0 rfl) ?_
    refine lv_iload_n hx hb dX8_count_30 rfl (lv_at hl 1 rfl) ?_
    refine lv_iload_n hx hb dX8_count_31 rfl (lv_at hl 2 rfl) ?_
    refine sp_callSe ⟨hx, hb, hml, hown, hts⟩ (kX8_code l p1 p2) (va_cwS 2 hts gX8_count_X8_code rfl rfl rfl hdX8_code.2 ⟨Nat.le_of_ble_eq_true rfl, Nat.le_of_ble_eq_true rfl⟩) rfl hl.1 rfl (Nat.le_of_ble_eq_true rfl) dX8_count_32 ⟨Nat.zero_le _, Nat.zero_le _⟩ ?_
    obtain ⟨r35, e35, hm⟩ := bs hm
    try dsimp only at hm
    refine ro_callVe ⟨hx, hb, hml, hown, hts⟩ (kX8_countBelow l dC dI cA a_t a_t_state a_t_kept a_t_stack a_t_text 0 v_t_saved v_t_textLength v_t_place v_t_sign v_t_readLetters v_t_readLength v_t_readNumber f_t_state (mX8_code p1 p2) r35 e35) (cwV 1 hts gX8_count_X8_countBelow rfl rfl rfl hdX8_countBelow ⟨Nat.le_of_ble_eq_true rfl, Nat.le_of_ble_eq_true rfl⟩) (hP.sub [0, 1] rfl) hK rfl rfl rfl hl.1 rfl (Nat.le_of_ble_eq_true rfl) dX8_count_35 ⟨Nat.zero_le _, Nat.zero_le _⟩ ?_
    cases hm
    exact mu_iret hx hb hr rfl rfl hP hD hS hK [0, 1] rfl (by decide) dX8_count_38 hlocks
def mX8_isHouse (f_t_state : Nat → Int32) (p1 : Int32) : Int32 :=
  (mX8_within p1 0 ((f_t_state 2) - 1))
abbrev rmX8_isHouse : Room := { frames := 1, cells := 0, slots := 0, locals := 22 }
abbrev wX8_isHouse (cA : ClassId) (a_t a_t_state a_t_kept a_t_stack a_t_text : Nat) (v_t_thrown v_t_saved v_t_textLength v_t_place v_t_sign v_t_readLetters v_t_readLength v_t_readNumber : Int32) (f_t_state : Nat → Int32) : va_W := [(a_t, .inr (7, [.int v_t_thrown, .ref a_t_state, .ref a_t_kept, .ref a_t_stack, .int v_t_saved, .ref a_t_text, .int v_t_textLength, .int v_t_place, .int v_t_sign, .int v_t_readLetters, .int v_t_readLength, .int v_t_readNumber])), (a_t_state, .inl (cA, 255, .inl f_t_state))]
theorem iX8_isHouse_X8 : ∀ w ∈ wsX80, w ∈ wsX8_isHouse := (fun _ h => List.mem_cons_of_mem _ (List.mem_append_right _ h))
theorem hdX8_isHouse : yX8_isHouse.cls = RX8 ∧ yX8_isHouse.cls ≠ "java/lang/invoke/MethodHandle" ∧ yX8_isHouse.cls ≠ "java/lang/invoke/VarHandle" ∧ (parseMethodDescriptor yX8_isHouse.desc).map (fun d => d.parameters.length) = some 1 := by decide +kernel
set_option maxHeartbeats 4000000 in
set_option maxRecDepth 100000 in
theorem kX8_isHouse (l : Launch) (dC : Nat → ClassId) (dI : Nat → Nat → Nat) (cA : ClassId) (a_t a_t_state a_t_kept a_t_stack a_t_text : Nat) (v_t_thrown v_t_saved v_t_textLength v_t_place v_t_sign v_t_readLetters v_t_readLength v_t_readNumber : Int32) (f_t_state : Nat → Int32) (p1 : Int32) : Met l yX8_isHouse wsX8_isHouse rmX8_isHouse (rpc (dC, dI) [(cA, .int)] (wX8_isHouse cA a_t a_t_state a_t_kept a_t_stack a_t_text v_t_thrown v_t_saved v_t_textLength v_t_place v_t_sign v_t_readLetters v_t_readLength v_t_readNumber f_t_state) [.ref a_t, .int p1]) (vp_Si (fun x => x = (mX8_isHouse f_t_state p1) ∧ nbr (mX8_isHouse f_t_state p1))) 0 0 (fun _ => False) := by
  obtain ⟨r, hm⟩ : ∃ r, mX8_isHouse f_t_state p1 = r := ⟨_, rfl⟩
  rw [hm]
  unfold mX8_isHouse at hm
  refine ro_ofW (cc := cX8_isHouse) (maxL := 2) (ret := (some .boolean)) (own := RX8) (by decide) rfl rfl (Nat.le_of_ble_eq_true rfl) ?_
  intro p e s m args below meth c hx hb hr hts hown hlocks hml hP hK ls hl
  have hl : lv_has ls 2 [(0, .ref a_t), (1, .int p1)] := hl
  have hP : va_P (dC, dI) vwCl [(a_t, .inr (7, [.int v_t_thrown, .ref a_t_state, .ref a_t_kept, .ref a_t_stack, .int v_t_saved, .ref a_t_text, .int v_t_textLength, .int v_t_place, .int v_t_sign, .int v_t_readLetters, .int v_t_readLength, .int v_t_readNumber])), (a_t_state, .inl (cA, 255, .inl f_t_state))] s.heap := hP
  refine lv_iload_n hx hb dX8_isHouse_0 rfl (lv_at hl 1 rfl) ?_
  refine lv_iconst (v := 0) hx hb dX8_isHouse_1 (by decide) ?_
  refine lv_aload_n hx hb dX8_isHouse_2 rfl (lv_at hl 0 rfl) ?_
  refine va_get (D := (dC, dI)) (ci := 7) (C := RX8) (T := TX8) (N := 12) hx hb hts iX8_isHouse_X8 hown hK hP 0 rfl rfl 1 (by decide) (hts _ (List.mem_of_getElem? (i := 1) rfl)) (fun _ h9 => h9) rfl dX8_isHouse_3 ?_
  refine lv_iconst (v := 2) hx hb dX8_isHouse_6 (by decide) ?_
  refine xa_ldK hx hb hK hP 1 0 rfl rfl 2 rfl (by decide) (by decide) dX8_isHouse_7 ?_
  refine lv_iconst (v := 1) hx hb dX8_isHouse_8 (by decide) ?_
  refine lv_isub hx hb dX8_isHouse_9 ?_
  refine sp_callSz ⟨hx, hb, hml, hown, hts⟩ (kX8_within l p1 0 ((f_t_state 2) - 1)) (va_cwS 3 hts gX8_isHouse_X8_within rfl rfl rfl hdX8_within.2 ⟨Nat.le_of_ble_eq_true rfl, Nat.le_of_ble_eq_true rfl⟩) rfl hl.1 rfl (Nat.le_of_ble_eq_true rfl) dX8_isHouse_10 ⟨Nat.zero_le _, Nat.zero_le _⟩ (fun hb10 => ?_)
  subst hm
  exact ro_iret hx hb hr hb10 ⟨rfl, hb10⟩ dX8_isHouse_13 hlocks
def mX8_houseValue (f_t_state : Nat → Int32) (p1 : Int32) (p2 : Int32) : Option (Int32) :=
  ((mX8_prefixOf f_t_state p1).bind fun r2 =>
  (if p2 = 0 then
    some (mX8_lettersOf r2)
  else
    (if p2 = 1 then
      some (mX8_lengthOf r2)
    else
      (if p2 = 2 then
        ((mX8_labelOf f_t_state p1).bind fun r70 =>
        some ((mX8_lettersOf r2) &&& ((1 <<< ((3 * r70) &&& 31)) - 1)))
      else
        (if p2 = 3 then
          ((mX8_labelOf f_t_state p1).bind fun r81 =>
          some r81)
        else
          (if p2 = 4 then
            ((mX8_childrenOf f_t_state p1).bind fun r87 =>
            some r87)
          else
            (if p2 = 5 then
              ((mX8_findName f_t_state r2).bind fun r93 =>
              some (if r93 = (-1) then (0 : Int32) else 1))
            else
              (if p2 = 6 then
                ((mX8_countBelow f_t_state r2).bind fun r108 =>
                some r108)
              else
                (if p2 = 7 then
                  ((mX8_weightBelow f_t_state r2).bind fun r114 =>
                  some r114)
                else
                  ((mX8_roadsTo f_t_state r2).bind fun r120 =>
                  some r120))))))))))
abbrev rmX8_houseValue : Room := { frames := 6, cells := 0, slots := 0, locals := 127 }
abbrev wX8_houseValue (cA : ClassId) (a_t a_t_state a_t_kept a_t_stack a_t_text : Nat) (v_t_thrown v_t_saved v_t_textLength v_t_place v_t_sign v_t_readLetters v_t_readLength v_t_readNumber : Int32) (f_t_state : Nat → Int32) : va_W := [(a_t, .inr (7, [.int v_t_thrown, .ref a_t_state, .ref a_t_kept, .ref a_t_stack, .int v_t_saved, .ref a_t_text, .int v_t_textLength, .int v_t_place, .int v_t_sign, .int v_t_readLetters, .int v_t_readLength, .int v_t_readNumber])), (a_t_state, .inl (cA, 255, .inl f_t_state))]
theorem hdX8_houseValue : yX8_houseValue.cls = RX8 ∧ yX8_houseValue.cls ≠ "java/lang/invoke/MethodHandle" ∧ yX8_houseValue.cls ≠ "java/lang/invoke/VarHandle" ∧ (parseMethodDescriptor yX8_houseValue.desc).map (fun d => d.parameters.length) = some 2 := by decide +kernel
set_option maxHeartbeats 4000000 in
set_option maxRecDepth 100000 in
theorem kX8_houseValue (l : Launch) (dC : Nat → ClassId) (dI : Nat → Nat → Nat) (cA : ClassId) (a_t a_t_state a_t_kept a_t_stack a_t_text : Nat) (v_t_thrown v_t_saved v_t_textLength v_t_place v_t_sign v_t_readLetters v_t_readLength v_t_readNumber : Int32) (f_t_state : Nat → Int32) (p1 p2 r : Int32) (hm : (mX8_houseValue f_t_state p1 p2) = some r) : Met l yX8_houseValue wsX8_houseValue rmX8_houseValue (rpc (dC, dI) [(cA, .int)] (wX8_houseValue cA a_t a_t_state a_t_kept a_t_stack a_t_text v_t_thrown v_t_saved v_t_textLength v_t_place v_t_sign v_t_readLetters v_t_readLength v_t_readNumber f_t_state) [.ref a_t, .int p1, .int p2]) (vp_Si (fun x => x = r)) 0 0 (fun _ => False) := by
  unfold mX8_houseValue at hm
  refine ro_ofW (cc := cX8_houseValue) (maxL := 4) (ret := (some .int)) (own := RX8) (by decide) rfl rfl (Nat.le_of_ble_eq_true rfl) ?_
  intro p e s m args below meth c hx hb hr hts hown hlocks hml hP hK ls hl
  have hl : lv_has ls 4 [(0, .ref a_t), (1, .int p1), (2, .int p2)] := hl
  have hP : va_P (dC, dI) vwCl [(a_t, .inr (7, [.int v_t_thrown, .ref a_t_state, .ref a_t_kept, .ref a_t_stack, .int v_t_saved, .ref a_t_text, .int v_t_textLength, .int v_t_place, .int v_t_sign, .int v_t_readLetters, .int v_t_readLength, .int v_t_readNumber])), (a_t_state, .inl (cA, 255, .inl f_t_state))] s.heap := hP
  refine lv_aload_n hx hb dX8_houseValue_0 rfl (lv_at hl 0 rfl) ?_
  refine lv_iload_n hx hb dX8_houseValue_1 rfl (lv_at hl 1 rfl) ?_
  obtain ⟨r2, e2, hm⟩ := bs hm
  try dsimp only at hm
  refine ro_callVe ⟨hx, hb, hml, hown, hts⟩ (kX8_prefixOf l dC dI cA a_t a_t_state a_t_kept a_t_stack a_t_text v_t_thrown v_t_saved v_t_textLength v_t_place v_t_sign v_t_readLetters v_t_readLength v_t_readNumber f_t_state p1 r2 e2) (cwV 1 hts gX8_houseValue_X8_prefixOf rfl rfl rfl hdX8_prefixOf ⟨Nat.le_of_ble_eq_true rfl, Nat.le_of_ble_eq_true rfl⟩) (hP.sub [0, 1] rfl) hK rfl rfl rfl hl.1 rfl (Nat.le_of_ble_eq_true rfl) dX8_houseValue_2 ⟨Nat.zero_le _, Nat.zero_le _⟩ ?_
  refine lv_istore_n (lv' := [(3, .int r2), (0, .ref a_t), (1, .int p1), (2, .int p2)]) hx hb dX8_houseValue_5 rfl hl (by decide) rfl (fun ls hl => ?_)
  refine lv_iload_n hx hb dX8_houseValue_6 rfl (lv_at hl 3 rfl) ?_
  by_cases c7_0 : p2 = 0
  · rw [if_pos c7_0] at hm
    refine lv_tableIn (off := 45) (tgt := 52) hx hb dX8_houseValue_7 (by rw [c7_0]; decide) (by rw [c7_0]; decide) (by rw [c7_0]; rfl) (by decide) ?_
    refine lv_iload_n hx hb dX8_houseValue_52 rfl (lv_at hl 0 rfl) ?_
    refine sp_callSe ⟨hx, hb, hml, hown, hts⟩ (kX8_lettersOf l r2) (va_cwS 1 hts gX8_houseValue_X8_lettersOf rfl rfl rfl hdX8_lettersOf.2 ⟨Nat.le_of_ble_eq_true rfl, Nat.le_of_ble_eq_true rfl⟩) rfl hl.1 rfl (Nat.le_of_ble_eq_true rfl) dX8_houseValue_53 ⟨Nat.zero_le _, Nat.zero_le _⟩ ?_
    cases hm
    exact ro_iret hx hb hr rfl rfl dX8_houseValue_56 hlocks
  rw [if_neg c7_0] at hm
  by_cases c7_1 : p2 = 1
  · rw [if_pos c7_1] at hm
    refine lv_tableIn (off := 50) (tgt := 57) hx hb dX8_houseValue_7 (by rw [c7_1]; decide) (by rw [c7_1]; decide) (by rw [c7_1]; rfl) (by decide) ?_
    refine lv_iload_n hx hb dX8_houseValue_57 rfl (lv_at hl 0 rfl) ?_
    refine sp_callSe ⟨hx, hb, hml, hown, hts⟩ (kX8_lengthOf l r2) (va_cwS 1 hts gX8_houseValue_X8_lengthOf rfl rfl rfl hdX8_lengthOf.2 ⟨Nat.le_of_ble_eq_true rfl, Nat.le_of_ble_eq_true rfl⟩) rfl hl.1 rfl (Nat.le_of_ble_eq_true rfl) dX8_houseValue_58 ⟨Nat.zero_le _, Nat.zero_le _⟩ ?_
    cases hm
    exact ro_iret hx hb hr rfl rfl dX8_houseValue_61 hlocks
  rw [if_neg c7_1] at hm
  by_cases c7_2 : p2 = 2
  · rw [if_pos c7_2] at hm
    refine lv_tableIn (off := 55) (tgt := 62) hx hb dX8_houseValue_7 (by rw [c7_2]; decide) (by rw [c7_2]; decide) (by rw [c7_2]; rfl) (by decide) ?_
    refine lv_iload_n hx hb dX8_houseValue_62 rfl (lv_at hl 0 rfl) ?_
    refine sp_callSe ⟨hx, hb, hml, hown, hts⟩ (kX8_lettersOf l r2) (va_cwS 1 hts gX8_houseValue_X8_lettersOf rfl rfl rfl hdX8_lettersOf.2 ⟨Nat.le_of_ble_eq_true rfl, Nat.le_of_ble_eq_true rfl⟩) rfl hl.1 rfl (Nat.le_of_ble_eq_true rfl) dX8_houseValue_63 ⟨Nat.zero_le _, Nat.zero_le _⟩ ?_
    refine lv_iconst (v := 1) hx hb dX8_houseValue_66 (by decide) ?_
    refine lv_iconst (v := 3) hx hb dX8_houseValue_67 (by decide) ?_
    refine lv_aload_n hx hb dX8_houseValue_68 rfl (lv_at hl 1 rfl) ?_
    refine lv_iload_n hx hb dX8_houseValue_69 rfl (lv_at hl 2 rfl) ?_
    obtain ⟨r70, e70, hm⟩ := bs hm
    try dsimp only at hm
    refine ro_callVe ⟨hx, hb, hml, hown, hts⟩ (kX8_labelOf l dC dI cA a_t a_t_state a_t_kept a_t_stack a_t_text v_t_thrown v_t_saved v_t_textLength v_t_place v_t_sign v_t_readLetters v_t_readLength v_t_readNumber f_t_state p1 r70 e70) (cwV 1 hts gX8_houseValue_X8_labelOf rfl rfl rfl hdX8_labelOf ⟨Nat.le_of_ble_eq_true rfl, Nat.le_of_ble_eq_true rfl⟩) (hP.sub [0, 1] rfl) hK rfl rfl rfl hl.1 rfl (Nat.le_of_ble_eq_true rfl) dX8_houseValue_70 ⟨Nat.zero_le _, Nat.zero_le _⟩ ?_
    refine lv_imul hx hb dX8_houseValue_73 ?_
    refine lv_ishl hx hb dX8_houseValue_74 ?_
    refine lv_iconst (v := 1) hx hb dX8_houseValue_75 (by decide) ?_
    refine lv_isub hx hb dX8_houseValue_76 ?_
    refine lv_iand hx hb dX8_houseValue_77 ?_
    cases hm
    exact ro_iret hx hb hr rfl rfl dX8_houseValue_78 hlocks
  rw [if_neg c7_2] at hm
  by_cases c7_3 : p2 = 3
  · rw [if_pos c7_3] at hm
    refine lv_tableIn (off := 72) (tgt := 79) hx hb dX8_houseValue_7 (by rw [c7_3]; decide) (by rw [c7_3]; decide) (by rw [c7_3]; rfl) (by decide) ?_
    refine lv_aload_n hx hb dX8_houseValue_79 rfl (lv_at hl 1 rfl) ?_
    refine lv_iload_n hx hb dX8_houseValue_80 rfl (lv_at hl 2 rfl) ?_
    obtain ⟨r81, e81, hm⟩ := bs hm
    try dsimp only at hm
    refine ro_callVe ⟨hx, hb, hml, hown, hts⟩ (kX8_labelOf l dC dI cA a_t a_t_state a_t_kept a_t_stack a_t_text v_t_thrown v_t_saved v_t_textLength v_t_place v_t_sign v_t_readLetters v_t_readLength v_t_readNumber f_t_state p1 r81 e81) (cwV 1 hts gX8_houseValue_X8_labelOf rfl rfl rfl hdX8_labelOf ⟨Nat.le_of_ble_eq_true rfl, Nat.le_of_ble_eq_true rfl⟩) (hP.sub [0, 1] rfl) hK rfl rfl rfl hl.1 rfl (Nat.le_of_ble_eq_true rfl) dX8_houseValue_81 ⟨Nat.zero_le _, Nat.zero_le _⟩ ?_
    cases hm
    exact ro_iret hx hb hr rfl rfl dX8_houseValue_84 hlocks
  rw [if_neg c7_3] at hm
  by_cases c7_4 : p2 = 4
  · rw [if_pos c7_4] at hm
    refine lv_tableIn (off := 78) (tgt := 85) hx hb dX8_houseValue_7 (by rw [c7_4]; decide) (by rw [c7_4]; decide) (by rw [c7_4]; rfl) (by decide) ?_
    refine lv_aload_n hx hb dX8_houseValue_85 rfl (lv_at hl 1 rfl) ?_
    refine lv_iload_n hx hb dX8_houseValue_86 rfl (lv_at hl 2 rfl) ?_
    obtain ⟨r87, e87, hm⟩ := bs hm
    try dsimp only at hm
    refine ro_callVe ⟨hx, hb, hml, hown, hts⟩ (kX8_childrenOf l dC dI cA a_t a_t_state a_t_kept a_t_stack a_t_text v_t_thrown v_t_saved v_t_textLength v_t_place v_t_sign v_t_readLetters v_t_readLength v_t_readNumber f_t_state p1 r87 e87) (cwV 1 hts gX8_houseValue_X8_childrenOf rfl rfl rfl hdX8_childrenOf ⟨Nat.le_of_ble_eq_true rfl, Nat.le_of_ble_eq_true rfl⟩) (hP.sub [0, 1] rfl) hK rfl rfl rfl hl.1 rfl (Nat.le_of_ble_eq_true rfl) dX8_houseValue_87 ⟨Nat.zero_le _, Nat.zero_le _⟩ ?_
    cases hm
    exact ro_iret hx hb hr rfl rfl dX8_houseValue_90 hlocks
  rw [if_neg c7_4] at hm
  by_cases c7_5 : p2 = 5
  · rw [if_pos c7_5] at hm
    refine lv_tableIn (off := 84) (tgt := 91) hx hb dX8_houseValue_7 (by rw [c7_5]; decide) (by rw [c7_5]; decide) (by rw [c7_5]; rfl) (by decide) ?_
    refine lv_aload_n hx hb dX8_houseValue_91 rfl (lv_at hl 1 rfl) ?_
    refine lv_iload_n hx hb dX8_houseValue_92 rfl (lv_at hl 0 rfl) ?_
    obtain ⟨r93, e93, hm⟩ := bs hm
    try dsimp only at hm
    refine ro_callVe ⟨hx, hb, hml, hown, hts⟩ (kX8_findName l dC dI cA a_t a_t_state a_t_kept a_t_stack a_t_text v_t_thrown v_t_saved v_t_textLength v_t_place v_t_sign v_t_readLetters v_t_readLength v_t_readNumber f_t_state r2 r93 e93) (cwV 1 hts gX8_houseValue_X8_findName rfl rfl rfl hdX8_findName ⟨Nat.le_of_ble_eq_true rfl, Nat.le_of_ble_eq_true rfl⟩) (hP.sub [0, 1] rfl) hK rfl rfl rfl hl.1 rfl (Nat.le_of_ble_eq_true rfl) dX8_houseValue_93 ⟨Nat.zero_le _, Nat.zero_le _⟩ ?_
    refine lv_iconst (v := (-1)) hx hb dX8_houseValue_96 (by decide) ?_
    refine lv_icmp_ne (tgt := 104) hx hb dX8_houseValue_97 (by decide) (fun c97 => ?_) (fun c97 => ?_)
    · try simp only [if_neg c97] at hm
      refine lv_iconst (v := 1) hx hb dX8_houseValue_104 (by decide) ?_
      cases hm
      exact ro_iret hx hb hr rfl rfl dX8_houseValue_105 hlocks
    · try simp only [if_pos c97] at hm
      refine lv_iconst (v := 0) hx hb dX8_houseValue_100 (by decide) ?_
      refine lv_goto (tgt := 105) hx hb dX8_houseValue_101 (by decide) ?_
      cases hm
      exact ro_iret hx hb hr rfl rfl dX8_houseValue_105 hlocks
  rw [if_neg c7_5] at hm
  by_cases c7_6 : p2 = 6
  · rw [if_pos c7_6] at hm
    refine lv_tableIn (off := 99) (tgt := 106) hx hb dX8_houseValue_7 (by rw [c7_6]; decide) (by rw [c7_6]; decide) (by rw [c7_6]; rfl) (by decide) ?_
    refine lv_aload_n hx hb dX8_houseValue_106 rfl (lv_at hl 1 rfl) ?_
    refine lv_iload_n hx hb dX8_houseValue_107 rfl (lv_at hl 0 rfl) ?_
    obtain ⟨r108, e108, hm⟩ := bs hm
    try dsimp only at hm
    refine ro_callVe ⟨hx, hb, hml, hown, hts⟩ (kX8_countBelow l dC dI cA a_t a_t_state a_t_kept a_t_stack a_t_text v_t_thrown v_t_saved v_t_textLength v_t_place v_t_sign v_t_readLetters v_t_readLength v_t_readNumber f_t_state r2 r108 e108) (cwV 1 hts gX8_houseValue_X8_countBelow rfl rfl rfl hdX8_countBelow ⟨Nat.le_of_ble_eq_true rfl, Nat.le_of_ble_eq_true rfl⟩) (hP.sub [0, 1] rfl) hK rfl rfl rfl hl.1 rfl (Nat.le_of_ble_eq_true rfl) dX8_houseValue_108 ⟨Nat.zero_le _, Nat.zero_le _⟩ ?_
    cases hm
    exact ro_iret hx hb hr rfl rfl dX8_houseValue_111 hlocks
  rw [if_neg c7_6] at hm
  by_cases c7_7 : p2 = 7
  · rw [if_pos c7_7] at hm
    refine lv_tableIn (off := 105) (tgt := 112) hx hb dX8_houseValue_7 (by rw [c7_7]; decide) (by rw [c7_7]; decide) (by rw [c7_7]; rfl) (by decide) ?_
    refine lv_aload_n hx hb dX8_houseValue_112 rfl (lv_at hl 1 rfl) ?_
    refine lv_iload_n hx hb dX8_houseValue_113 rfl (lv_at hl 0 rfl) ?_
    obtain ⟨r114, e114, hm⟩ := bs hm
    try dsimp only at hm
    refine ro_callVe ⟨hx, hb, hml, hown, hts⟩ (kX8_weightBelow l dC dI cA a_t a_t_state a_t_kept a_t_stack a_t_text v_t_thrown v_t_saved v_t_textLength v_t_place v_t_sign v_t_readLetters v_t_readLength v_t_readNumber f_t_state r2 r114 e114) (cwV 1 hts gX8_houseValue_X8_weightBelow rfl rfl rfl hdX8_weightBelow ⟨Nat.le_of_ble_eq_true rfl, Nat.le_of_ble_eq_true rfl⟩) (hP.sub [0, 1] rfl) hK rfl rfl rfl hl.1 rfl (Nat.le_of_ble_eq_true rfl) dX8_houseValue_114 ⟨Nat.zero_le _, Nat.zero_le _⟩ ?_
    cases hm
    exact ro_iret hx hb hr rfl rfl dX8_houseValue_117 hlocks
  rw [if_neg c7_7] at hm
  have n7_0 := lv_neT (a := 0) c7_0 (by decide)
  have n7_1 := lv_neT (a := 1) c7_1 (by decide)
  have n7_2 := lv_neT (a := 2) c7_2 (by decide)
  have n7_3 := lv_neT (a := 3) c7_3 (by decide)
  have n7_4 := lv_neT (a := 4) c7_4 (by decide)
  have n7_5 := lv_neT (a := 5) c7_5 (by decide)
  have n7_6 := lv_neT (a := 6) c7_6 (by decide)
  have n7_7 := lv_neT (a := 7) c7_7 (by decide)
  refine lv_tableOut (tgt := 118) hx hb dX8_houseValue_7 (by omega) (by decide) ?_
  refine lv_aload_n hx hb dX8_houseValue_118 rfl (lv_at hl 1 rfl) ?_
  refine lv_iload_n hx hb dX8_houseValue_119 rfl (lv_at hl 0 rfl) ?_
  obtain ⟨r120, e120, hm⟩ := bs hm
  try dsimp only at hm
  refine ro_callVe ⟨hx, hb, hml, hown, hts⟩ (kX8_roadsTo l dC dI cA a_t a_t_state a_t_kept a_t_stack a_t_text v_t_thrown v_t_saved v_t_textLength v_t_place v_t_sign v_t_readLetters v_t_readLength v_t_readNumber f_t_state r2 r120 e120) (cwV 1 hts gX8_houseValue_X8_roadsTo rfl rfl rfl hdX8_roadsTo ⟨Nat.le_of_ble_eq_true rfl, Nat.le_of_ble_eq_true rfl⟩) (hP.sub [0, 1] rfl) hK rfl rfl rfl hl.1 rfl (Nat.le_of_ble_eq_true rfl) dX8_houseValue_120 ⟨Nat.zero_le _, Nat.zero_le _⟩ ?_
  cases hm
  exact ro_iret hx hb hr rfl rfl dX8_houseValue_123 hlocks
def mX8_house (f_t_state : Nat → Int32) (p1 : Int32) (p2 : Int32) : Option (Int32 × Int32) :=
  (if (if (mX8_isHouse f_t_state p1) = 0 then 1 else (if (mX8_within p2 0 8) = 0 then (2 : Int32) else 0)) ≤ 0 then
    ((mX8_houseValue f_t_state p1 p2).bind fun r45 =>
    some (r45, (if (mX8_isHouse f_t_state p1) = 0 then 1 else (if (mX8_within p2 0 8) = 0 then (2 : Int32) else 0))))
  else
    some (0, (if (mX8_isHouse f_t_state p1) = 0 then 1 else (if (mX8_within p2 0 8) = 0 then (2 : Int32) else 0))))
abbrev rmX8_house : Room := { frames := 7, cells := 0, slots := 0, locals := 150 }
abbrev wX8_house (cA : ClassId) (a_t a_t_state a_t_kept a_t_stack a_t_text : Nat) (v_t_thrown v_t_saved v_t_textLength v_t_place v_t_sign v_t_readLetters v_t_readLength v_t_readNumber : Int32) (f_t_state : Nat → Int32) : va_W := [(a_t, .inr (7, [.int v_t_thrown, .ref a_t_state, .ref a_t_kept, .ref a_t_stack, .int v_t_saved, .ref a_t_text, .int v_t_textLength, .int v_t_place, .int v_t_sign, .int v_t_readLetters, .int v_t_readLength, .int v_t_readNumber])), (a_t_state, .inl (cA, 255, .inl f_t_state))]
theorem iX8_house_X8 : ∀ w ∈ wsX80, w ∈ wsX8_house := (fun _ h => List.mem_cons_of_mem _ (List.mem_append_right _ h))
theorem hdX8_house : yX8_house.cls = RX8 ∧ yX8_house.cls ≠ "java/lang/invoke/MethodHandle" ∧ yX8_house.cls ≠ "java/lang/invoke/VarHandle" ∧ (parseMethodDescriptor yX8_house.desc).map (fun d => d.parameters.length) = some 2 := by decide +kernel
set_option maxHeartbeats 4000000 in
set_option maxRecDepth 100000 in
theorem kX8_house (l : Launch) (dC : Nat → ClassId) (dI : Nat → Nat → Nat) (cA : ClassId) (a_t a_t_state a_t_kept a_t_stack a_t_text : Nat) (v_t_thrown v_t_saved v_t_textLength v_t_place v_t_sign v_t_readLetters v_t_readLength v_t_readNumber : Int32) (f_t_state : Nat → Int32) (p1 p2 : Int32) (sz : Nat) (r o_v_t_thrown : Int32) (hm : (mX8_house f_t_state p1 p2) = some (r, o_v_t_thrown)) : Met l yX8_house wsX8_house rmX8_house (mpc (dC, dI) [(cA, .int)] (wX8_house cA a_t a_t_state a_t_kept a_t_stack a_t_text v_t_thrown v_t_saved v_t_textLength v_t_place v_t_sign v_t_readLetters v_t_readLength v_t_readNumber f_t_state) [.ref a_t, .int p1, .int p2] sz) (mqi (dC, dI) [(cA, .int)] (va_A (wX8_house cA a_t a_t_state a_t_kept a_t_stack a_t_text v_t_thrown v_t_saved v_t_textLength v_t_place v_t_sign v_t_readLetters v_t_readLength v_t_readNumber f_t_state) sz) (wX8_house cA a_t a_t_state a_t_kept a_t_stack a_t_text o_v_t_thrown v_t_saved v_t_textLength v_t_place v_t_sign v_t_readLetters v_t_readLength v_t_readNumber f_t_state) (fun x => x = r)) 0 0 (va_A (wX8_house cA a_t a_t_state a_t_kept a_t_stack a_t_text v_t_thrown v_t_saved v_t_textLength v_t_place v_t_sign v_t_readLetters v_t_readLength v_t_readNumber f_t_state) sz) := by
  unfold mX8_house at hm
  refine mu_ofW (Qc := fun A => mqi (dC, dI) [(cA, .int)] A (wX8_house cA a_t a_t_state a_t_kept a_t_stack a_t_text o_v_t_thrown v_t_saved v_t_textLength v_t_place v_t_sign v_t_readLetters v_t_readLength v_t_readNumber f_t_state) (fun x => x = r)) (cc := cX8_house) (maxL := 3) (ret := (some .int)) (own := RX8) (by decide) rfl rfl (Nat.le_of_ble_eq_true rfl) ?_
  intro p e s m args below meth c hx hb hr hts hown hlocks hml hin A hA hP hD hS hK ls hl
  have hl : lv_has ls 3 [(0, .ref a_t), (1, .int p1), (2, .int p2)] := hl
  have hP : va_P (dC, dI) vwCl [(a_t, .inr (7, [.int v_t_thrown, .ref a_t_state, .ref a_t_kept, .ref a_t_stack, .int v_t_saved, .ref a_t_text, .int v_t_textLength, .int v_t_place, .int v_t_sign, .int v_t_readLetters, .int v_t_readLength, .int v_t_readNumber])), (a_t_state, .inl (cA, 255, .inl f_t_state))] s.heap := hP
  have hD : va_D A [(a_t, .inr (7, [.int v_t_thrown, .ref a_t_state, .ref a_t_kept, .ref a_t_stack, .int v_t_saved, .ref a_t_text, .int v_t_textLength, .int v_t_place, .int v_t_sign, .int v_t_readLetters, .int v_t_readLength, .int v_t_readNumber])), (a_t_state, .inl (cA, 255, .inl f_t_state))] := hD
  refine lv_aload_n hx hb dX8_house_0 rfl (lv_at hl 0 rfl) ?_
  refine lv_aload_n hx hb dX8_house_1 rfl (lv_at hl 0 rfl) ?_
  refine lv_iload_n hx hb dX8_house_2 rfl (lv_at hl 1 rfl) ?_
  refine ro_callVz ⟨hx, hb, hml, hown, hts⟩ (kX8_isHouse l dC dI cA a_t a_t_state a_t_kept a_t_stack a_t_text v_t_thrown v_t_saved v_t_textLength v_t_place v_t_sign v_t_readLetters v_t_readLength v_t_readNumber f_t_state p1) (cwV 1 hts gX8_house_X8_isHouse rfl rfl rfl hdX8_isHouse ⟨Nat.le_of_ble_eq_true rfl, Nat.le_of_ble_eq_true rfl⟩) (hP.sub [0, 1] rfl) hK rfl rfl rfl hl.1 rfl (Nat.le_of_ble_eq_true rfl) dX8_house_3 ⟨Nat.zero_le _, Nat.zero_le _⟩ (fun hb3 => ?_)
  refine lv_if_ne (tgt := 13) hx hb dX8_house_6 (by decide) (fun c6 => ?_) (fun c6 => ?_)
  · try simp only [if_neg c6] at hm
    refine lv_iload_n hx hb dX8_house_13 rfl (lv_at hl 2 rfl) ?_
    refine lv_iconst (v := 0) hx hb dX8_house_14 (by decide) ?_
    refine lv_bipush (v := 8) hx hb dX8_house_15 (by decide) ?_
    refine sp_callSz ⟨hx, hb, hml, hown, hts⟩ (kX8_within l p2 0 8) (va_cwS 3 hts gX8_house_X8_within rfl rfl rfl hdX8_within.2 ⟨Nat.le_of_ble_eq_true rfl, Nat.le_of_ble_eq_true rfl⟩) rfl hl.1 rfl (Nat.le_of_ble_eq_true rfl) dX8_house_17 ⟨Nat.zero_le _, Nat.zero_le _⟩ (fun hb17 => ?_)
    refine lv_if_eq (tgt := 27) hx hb dX8_house_20 (by decide) (fun c20 => ?_) (fun c20 => ?_)
    · try simp only [if_pos c20] at hm
      refine lv_iconst (v := 2) hx hb dX8_house_27 (by decide) ?_
      refine va_put (D := (dC, dI)) (ci := 7) (C := RX8) (T := TX8) (N := 12) (ty := .int) hx hb hts iX8_house_X8 tyX8 tyX8_ok nmX8 hown hK hP hD hS 0 rfl rfl 0 (by decide) (hts _ (List.mem_of_getElem? (i := 1) rfl)) (fun _ h9 => h9) rfl (by decide +kernel) rfl rfl (Nat.le_of_ble_eq_true rfl) dX8_house_28 (fun H locs hP hD hS => ?_)
      have hP : va_P (dC, dI) vwCl [(a_t, .inr (7, [.int 2, .ref a_t_state, .ref a_t_kept, .ref a_t_stack, .int v_t_saved, .ref a_t_text, .int v_t_textLength, .int v_t_place, .int v_t_sign, .int v_t_readLetters, .int v_t_readLength, .int v_t_readNumber])), (a_t_state, .inl (cA, 255, .inl f_t_state))] H := hP
      have hD : va_D A [(a_t, .inr (7, [.int 2, .ref a_t_state, .ref a_t_kept, .ref a_t_stack, .int v_t_saved, .ref a_t_text, .int v_t_textLength, .int v_t_place, .int v_t_sign, .int v_t_readLetters, .int v_t_readLength, .int v_t_readNumber])), (a_t_state, .inl (cA, 255, .inl f_t_state))] := hD
      refine lv_aload_n hx hb dX8_house_31 rfl (lv_at hl 0 rfl) ?_
      refine va_get (D := (dC, dI)) (ci := 7) (C := RX8) (T := TX8) (N := 12) hx hb hts iX8_house_X8 hown hK hP 0 rfl rfl 0 (by decide) (hts _ (List.mem_of_getElem? (i := 1) rfl)) (fun _ h9 => h9) rfl dX8_house_32 ?_
      refine lv_if_le (tgt := 42) hx hb dX8_house_35 (by decide) (fun c35 => absurd c35 (by decide)) (fun c35 => ?_)
      try rw [if_neg (show ¬ ((2 : Int32) ≤ 0) by decide)] at hm
      refine lv_iconst (v := 0) hx hb dX8_house_38 (by decide) ?_
      refine lv_goto (tgt := 48) hx hb dX8_house_39 (by decide) ?_
      cases hm
      exact mu_iret hx hb hr rfl rfl hP hD hS hK [0, 1] rfl (by decide) dX8_house_48 hlocks
    · try simp only [if_neg c20] at hm
      refine lv_iconst (v := 0) hx hb dX8_house_23 (by decide) ?_
      refine lv_goto (tgt := 28) hx hb dX8_house_24 (by decide) ?_
      refine va_put (D := (dC, dI)) (ci := 7) (C := RX8) (T := TX8) (N := 12) (ty := .int) hx hb hts iX8_house_X8 tyX8 tyX8_ok nmX8 hown hK hP hD hS 0 rfl rfl 0 (by decide) (hts _ (List.mem_of_getElem? (i := 1) rfl)) (fun _ h9 => h9) rfl (by decide +kernel) rfl rfl (Nat.le_of_ble_eq_true rfl) dX8_house_28 (fun H locs hP hD hS => ?_)
      have hP : va_P (dC, dI) vwCl [(a_t, .inr (7, [.int 0, .ref a_t_state, .ref a_t_kept, .ref a_t_stack, .int v_t_saved, .ref a_t_text, .int v_t_textLength, .int v_t_place, .int v_t_sign, .int v_t_readLetters, .int v_t_readLength, .int v_t_readNumber])), (a_t_state, .inl (cA, 255, .inl f_t_state))] H := hP
      have hD : va_D A [(a_t, .inr (7, [.int 0, .ref a_t_state, .ref a_t_kept, .ref a_t_stack, .int v_t_saved, .ref a_t_text, .int v_t_textLength, .int v_t_place, .int v_t_sign, .int v_t_readLetters, .int v_t_readLength, .int v_t_readNumber])), (a_t_state, .inl (cA, 255, .inl f_t_state))] := hD
      refine lv_aload_n hx hb dX8_house_31 rfl (lv_at hl 0 rfl) ?_
      refine va_get (D := (dC, dI)) (ci := 7) (C := RX8) (T := TX8) (N := 12) hx hb hts iX8_house_X8 hown hK hP 0 rfl rfl 0 (by decide) (hts _ (List.mem_of_getElem? (i := 1) rfl)) (fun _ h9 => h9) rfl dX8_house_32 ?_
      refine lv_if_le (tgt := 42) hx hb dX8_house_35 (by decide) (fun c35 => ?_) (fun c35 => absurd c35 (by decide))
      try rw [if_pos (show (0 : Int32) ≤ 0 by decide)] at hm
      refine lv_aload_n hx hb dX8_house_42 rfl (lv_at hl 0 rfl) ?_
      refine lv_iload_n hx hb dX8_house_43 rfl (lv_at hl 1 rfl) ?_
      refine lv_iload_n hx hb dX8_house_44 rfl (lv_at hl 2 rfl) ?_
      obtain ⟨r45, e45, hm⟩ := bs hm
      try dsimp only at hm
      refine ro_callVe ⟨hx, hb, hml, hown, hts⟩ (kX8_houseValue l dC dI cA a_t a_t_state a_t_kept a_t_stack a_t_text 0 v_t_saved v_t_textLength v_t_place v_t_sign v_t_readLetters v_t_readLength v_t_readNumber f_t_state p1 p2 r45 e45) (cwV 2 hts gX8_house_X8_houseValue rfl rfl rfl hdX8_houseValue ⟨Nat.le_of_ble_eq_true rfl, Nat.le_of_ble_eq_true rfl⟩) (hP.sub [0, 1] rfl) hK rfl rfl rfl hl.1 rfl (Nat.le_of_ble_eq_true rfl) dX8_house_45 ⟨Nat.zero_le _, Nat.zero_le _⟩ ?_
      cases hm
      exact mu_iret hx hb hr rfl rfl hP hD hS hK [0, 1] rfl (by decide) dX8_house_48 hlocks
  · try simp only [if_pos c6] at hm
    refine lv_iconst (v := 1) hx hb dX8_house_9 (by decide) ?_
    refine lv_goto (tgt := 28) hx hb dX8_house_10 (by decide) ?_
    refine va_put (D := (dC, dI)) (ci := 7) (C := RX8) (T := TX8) (N := 12) (ty := .int) hx hb hts iX8_house_X8 tyX8 tyX8_ok nmX8 hown hK hP hD hS 0 rfl rfl 0 (by decide) (hts _ (List.mem_of_getElem? (i := 1) rfl)) (fun _ h9 => h9) rfl (by decide +kernel) rfl rfl (Nat.le_of_ble_eq_true rfl) dX8_house_28 (fun H locs hP hD hS => ?_)
    have hP : va_P (dC, dI) vwCl [(a_t, .inr (7, [.int 1, .ref a_t_state, .ref a_t_kept, .ref a_t_stack, .int v_t_saved, .ref a_t_text, .int v_t_textLength, .int v_t_place, .int v_t_sign, .int v_t_readLetters, .int v_t_readLength, .int v_t_readNumber])), (a_t_state, .inl (cA, 255, .inl f_t_state))] H := hP
    have hD : va_D A [(a_t, .inr (7, [.int 1, .ref a_t_state, .ref a_t_kept, .ref a_t_stack, .int v_t_saved, .ref a_t_text, .int v_t_textLength, .int v_t_place, .int v_t_sign, .int v_t_readLetters, .int v_t_readLength, .int v_t_readNumber])), (a_t_state, .inl (cA, 255, .inl f_t_state))] := hD
    refine lv_aload_n hx hb dX8_house_31 rfl (lv_at hl 0 rfl) ?_
    refine va_get (D := (dC, dI)) (ci := 7) (C := RX8) (T := TX8) (N := 12) hx hb hts iX8_house_X8 hown hK hP 0 rfl rfl 0 (by decide) (hts _ (List.mem_of_getElem? (i := 1) rfl)) (fun _ h9 => h9) rfl dX8_house_32 ?_
    refine lv_if_le (tgt := 42) hx hb dX8_house_35 (by decide) (fun c35 => absurd c35 (by decide)) (fun c35 => ?_)
    try rw [if_neg (show ¬ ((1 : Int32) ≤ 0) by decide)] at hm
    refine lv_iconst (v := 0) hx hb dX8_house_38 (by decide) ?_
    refine lv_goto (tgt := 48) hx hb dX8_house_39 (by decide) ?_
    cases hm
    exact mu_iret hx hb hr rfl rfl hP hD hS hK [0, 1] rfl (by decide) dX8_house_48 hlocks
def mX8_houseOf (f_t_state : Nat → Int32) (p1 : Int32) (p2 : Int32) : Option (Int32 × Int32) :=
  (if (if (mX8_isPrefix p1 p2 0) = 0 then (1 : Int32) else 0) ≤ 0 then
    ((mX8_findHouse f_t_state (mX8_code p1 p2)).bind fun r35 =>
    some (r35, (if (mX8_isPrefix p1 p2 0) = 0 then (1 : Int32) else 0)))
  else
    some (0, (if (mX8_isPrefix p1 p2 0) = 0 then (1 : Int32) else 0)))
abbrev rmX8_houseOf : Room := { frames := 2, cells := 0, slots := 0, locals := 44 }
abbrev wX8_houseOf (cA : ClassId) (a_t a_t_state a_t_kept a_t_stack a_t_text : Nat) (v_t_thrown v_t_saved v_t_textLength v_t_place v_t_sign v_t_readLetters v_t_readLength v_t_readNumber : Int32) (f_t_state : Nat → Int32) : va_W := [(a_t, .inr (7, [.int v_t_thrown, .ref a_t_state, .ref a_t_kept, .ref a_t_stack, .int v_t_saved, .ref a_t_text, .int v_t_textLength, .int v_t_place, .int v_t_sign, .int v_t_readLetters, .int v_t_readLength, .int v_t_readNumber])), (a_t_state, .inl (cA, 255, .inl f_t_state))]
theorem iX8_houseOf_X8 : ∀ w ∈ wsX80, w ∈ wsX8_houseOf := (fun _ h => List.mem_cons_of_mem _ (List.mem_append_right _ h))
theorem hdX8_houseOf : yX8_houseOf.cls = RX8 ∧ yX8_houseOf.cls ≠ "java/lang/invoke/MethodHandle" ∧ yX8_houseOf.cls ≠ "java/lang/invoke/VarHandle" ∧ (parseMethodDescriptor yX8_houseOf.desc).map (fun d => d.parameters.length) = some 2 := by decide +kernel
set_option maxHeartbeats 4000000 in
set_option maxRecDepth 100000 in
theorem kX8_houseOf (l : Launch) (dC : Nat → ClassId) (dI : Nat → Nat → Nat) (cA : ClassId) (a_t a_t_state a_t_kept a_t_stack a_t_text : Nat) (v_t_thrown v_t_saved v_t_textLength v_t_place v_t_sign v_t_readLetters v_t_readLength v_t_readNumber : Int32) (f_t_state : Nat → Int32) (p1 p2 : Int32) (sz : Nat) (r o_v_t_thrown : Int32) (hm : (mX8_houseOf f_t_state p1 p2) = some (r, o_v_t_thrown)) : Met l yX8_houseOf wsX8_houseOf rmX8_houseOf (mpc (dC, dI) [(cA, .int)] (wX8_houseOf cA a_t a_t_state a_t_kept a_t_stack a_t_text v_t_thrown v_t_saved v_t_textLength v_t_place v_t_sign v_t_readLetters v_t_readLength v_t_readNumber f_t_state) [.ref a_t, .int p1, .int p2] sz) (mqi (dC, dI) [(cA, .int)] (va_A (wX8_houseOf cA a_t a_t_state a_t_kept a_t_stack a_t_text v_t_thrown v_t_saved v_t_textLength v_t_place v_t_sign v_t_readLetters v_t_readLength v_t_readNumber f_t_state) sz) (wX8_houseOf cA a_t a_t_state a_t_kept a_t_stack a_t_text o_v_t_thrown v_t_saved v_t_textLength v_t_place v_t_sign v_t_readLetters v_t_readLength v_t_readNumber f_t_state) (fun x => x = r)) 0 0 (va_A (wX8_houseOf cA a_t a_t_state a_t_kept a_t_stack a_t_text v_t_thrown v_t_saved v_t_textLength v_t_place v_t_sign v_t_readLetters v_t_readLength v_t_readNumber f_t_state) sz) := by
  unfold mX8_houseOf at hm
  refine mu_ofW (Qc := fun A => mqi (dC, dI) [(cA, .int)] A (wX8_houseOf cA a_t a_t_state a_t_kept a_t_stack a_t_text o_v_t_thrown v_t_saved v_t_textLength v_t_place v_t_sign v_t_readLetters v_t_readLength v_t_readNumber f_t_state) (fun x => x = r)) (cc := cX8_houseOf) (maxL := 3) (ret := (some .int)) (own := RX8) (by decide) rfl rfl (Nat.le_of_ble_eq_true rfl) ?_
  intro p e s m args below meth c hx hb hr hts hown hlocks hml hin A hA hP hD hS hK ls hl
  have hl : lv_has ls 3 [(0, .ref a_t), (1, .int p1), (2, .int p2)] := hl
  have hP : va_P (dC, dI) vwCl [(a_t, .inr (7, [.int v_t_thrown, .ref a_t_state, .ref a_t_kept, .ref a_t_stack, .int v_t_saved, .ref a_t_text, .int v_t_textLength, .int v_t_place, .int v_t_sign, .int v_t_readLetters, .int v_t_readLength, .int v_t_readNumber])), (a_t_state, .inl (cA, 255, .inl f_t_state))] s.heap := hP
  have hD : va_D A [(a_t, .inr (7, [.int v_t_thrown, .ref a_t_state, .ref a_t_kept, .ref a_t_stack, .int v_t_saved, .ref a_t_text, .int v_t_textLength, .int v_t_place, .int v_t_sign, .int v_t_readLetters, .int v_t_readLength, .int v_t_readNumber])), (a_t_state, .inl (cA, 255, .inl f_t_state))] := hD
  refine lv_aload_n hx hb dX8_houseOf_0 rfl (lv_at hl 0 rfl) ?_
  refine lv_iload_n hx hb dX8_houseOf_1 rfl (lv_at hl 1 rfl) ?_
  refine lv_iload_n hx hb dX8_houseOf_2 rfl (lv_at hl 2 rfl) ?_
  refine lv_iconst (v := 0) hx hb dX8_houseOf_3 (by decide) ?_
  refine sp_callSz ⟨hx, hb, hml, hown, hts⟩ (kX8_isPrefix l p1 p2 0) (va_cwS 3 hts gX8_houseOf_X8_isPrefix rfl rfl rfl hdX8_isPrefix.2 ⟨Nat.le_of_ble_eq_true rfl, Nat.le_of_ble_eq_true rfl⟩) rfl hl.1 rfl (Nat.le_of_ble_eq_true rfl) dX8_houseOf_4 ⟨Nat.zero_le _, Nat.zero_le _⟩ (fun hb4 => ?_)
  refine lv_if_eq (tgt := 14) hx hb dX8_houseOf_7 (by decide) (fun c7 => ?_) (fun c7 => ?_)
  · try simp only [if_pos c7] at hm
    refine lv_iconst (v := 1) hx hb dX8_houseOf_14 (by decide) ?_
    refine va_put (D := (dC, dI)) (ci := 7) (C := RX8) (T := TX8) (N := 12) (ty := .int) hx hb hts iX8_houseOf_X8 tyX8 tyX8_ok nmX8 hown hK hP hD hS 0 rfl rfl 0 (by decide) (hts _ (List.mem_of_getElem? (i := 1) rfl)) (fun _ h9 => h9) rfl (by decide +kernel) rfl rfl (Nat.le_of_ble_eq_true rfl) dX8_houseOf_15 (fun H locs hP hD hS => ?_)
    have hP : va_P (dC, dI) vwCl [(a_t, .inr (7, [.int 1, .ref a_t_state, .ref a_t_kept, .ref a_t_stack, .int v_t_saved, .ref a_t_text, .int v_t_textLength, .int v_t_place, .int v_t_sign, .int v_t_readLetters, .int v_t_readLength, .int v_t_readNumber])), (a_t_state, .inl (cA, 255, .inl f_t_state))] H := hP
    have hD : va_D A [(a_t, .inr (7, [.int 1, .ref a_t_state, .ref a_t_kept, .ref a_t_stack, .int v_t_saved, .ref a_t_text, .int v_t_textLength, .int v_t_place, .int v_t_sign, .int v_t_readLetters, .int v_t_readLength, .int v_t_readNumber])), (a_t_state, .inl (cA, 255, .inl f_t_state))] := hD
    refine lv_aload_n hx hb dX8_houseOf_18 rfl (lv_at hl 0 rfl) ?_
    refine va_get (D := (dC, dI)) (ci := 7) (C := RX8) (T := TX8) (N := 12) hx hb hts iX8_houseOf_X8 hown hK hP 0 rfl rfl 0 (by decide) (hts _ (List.mem_of_getElem? (i := 1) rfl)) (fun _ h9 => h9) rfl dX8_houseOf_19 ?_
    refine lv_if_le (tgt := 29) hx hb dX8_houseOf_22 (by decide) (fun c22 => absurd c22 (by decide)) (fun c22 => ?_)
    try rw [if_neg (show ¬ ((1 : Int32) ≤ 0) by decide)] at hm
    refine lv_iconst (v := 0) hx hb dX8_houseOf_25 (by decide) ?_
    refine lv_goto (tgt := 38) hx hb dX8_houseOf_26 (by decide) ?_
    cases hm
    exact mu_iret hx hb hr rfl rfl hP hD hS hK [0, 1] rfl (by decide) dX8_houseOf_38 hlocks
  · try simp only [if_neg c7] at hm
    refine lv_iconst (v := 0) hx hb dX8_houseOf_10 (by decide) ?_
    refine lv_goto (tgt := 15) hx hb dX8_houseOf_11 (by decide) ?_
    refine va_put (D := (dC, dI)) (ci := 7) (C := RX8) (T := TX8) (N := 12) (ty := .int) hx hb hts iX8_houseOf_X8 tyX8 tyX8_ok nmX8 hown hK hP hD hS 0 rfl rfl 0 (by decide) (hts _ (List.mem_of_getElem? (i := 1) rfl)) (fun _ h9 => h9) rfl (by decide +kernel) rfl rfl (Nat.le_of_ble_eq_true rfl) dX8_houseOf_15 (fun H locs hP hD hS => ?_)
    have hP : va_P (dC, dI) vwCl [(a_t, .inr (7, [.int 0, .ref a_t_state, .ref a_t_kept, .ref a_t_stack, .int v_t_saved, .ref a_t_text, .int v_t_textLength, .int v_t_place, .int v_t_sign, .int v_t_readLetters, .int v_t_readLength, .int v_t_readNumber])), (a_t_state, .inl (cA, 255, .inl f_t_state))] H := hP
    have hD : va_D A [(a_t, .inr (7, [.int 0, .ref a_t_state, .ref a_t_kept, .ref a_t_stack, .int v_t_saved, .ref a_t_text, .int v_t_textLength, .int v_t_place, .int v_t_sign, .int v_t_readLetters, .int v_t_readLength, .int v_t_readNumber])), (a_t_state, .inl (cA, 255, .inl f_t_state))] := hD
    refine lv_aload_n hx hb dX8_houseOf_18 rfl (lv_at hl 0 rfl) ?_
    refine va_get (D := (dC, dI)) (ci := 7) (C := RX8) (T := TX8) (N := 12) hx hb hts iX8_houseOf_X8 hown hK hP 0 rfl rfl 0 (by decide) (hts _ (List.mem_of_getElem? (i := 1) rfl)) (fun _ h9 => h9) rfl dX8_houseOf_19 ?_
    refine lv_if_le (tgt := 29) hx hb dX8_houseOf_22 (by decide) (fun c22 => ?_) (fun c22 => absurd c22 (by decide))
    try rw [if_pos (show (0 : Int32) ≤ 0 by decide)] at hm
    refine lv_aload_n hx hb dX8_houseOf_29 rfl (lv_at hl 0 rfl) ?_
    refine lv_iload_n hx hb dX8_houseOf_30 rfl (lv_at hl 1 rfl) ?_
    refine lv_iload_n hx hb dX8_houseOf_31 rfl (lv_at hl 2 rfl) ?_
    refine sp_callSe ⟨hx, hb, hml, hown, hts⟩ (kX8_code l p1 p2) (va_cwS 2 hts gX8_houseOf_X8_code rfl rfl rfl hdX8_code.2 ⟨Nat.le_of_ble_eq_true rfl, Nat.le_of_ble_eq_true rfl⟩) rfl hl.1 rfl (Nat.le_of_ble_eq_true rfl) dX8_houseOf_32 ⟨Nat.zero_le _, Nat.zero_le _⟩ ?_
    obtain ⟨r35, e35, hm⟩ := bs hm
    try dsimp only at hm
    refine ro_callVe ⟨hx, hb, hml, hown, hts⟩ (kX8_findHouse l dC dI cA a_t a_t_state a_t_kept a_t_stack a_t_text 0 v_t_saved v_t_textLength v_t_place v_t_sign v_t_readLetters v_t_readLength v_t_readNumber f_t_state (mX8_code p1 p2) r35 e35) (cwV 1 hts gX8_houseOf_X8_findHouse rfl rfl rfl hdX8_findHouse ⟨Nat.le_of_ble_eq_true rfl, Nat.le_of_ble_eq_true rfl⟩) (hP.sub [0, 1] rfl) hK rfl rfl rfl hl.1 rfl (Nat.le_of_ble_eq_true rfl) dX8_houseOf_35 ⟨Nat.zero_le _, Nat.zero_le _⟩ ?_
    cases hm
    exact mu_iret hx hb hr rfl rfl hP hD hS hK [0, 1] rfl (by decide) dX8_houseOf_38 hlocks
def mX8_roadsBetween_L5 (f_t_state : Nat → Int32) (x1_5 : Int32) (x2_5 : Int32) : Nat → (Int32) → (Int32) → Option (Int32 × Int32)
  | 0, _, _ => none
  | n + 1, x3_5, x4_5 =>
    (if (f_t_state 2) ≤ x4_5 then
      some (x3_5, x4_5)
    else
      ((mX8_prefixOf f_t_state x4_5).bind fun r20 =>
      ((mX8_name f_t_state x1_5).bind fun r25 =>
      (if (mX8_begins r20 r25) = 0 then
        mX8_roadsBetween_L5 f_t_state x1_5 x2_5 n (x3_5 + 0) (x4_5 + 1)
      else
        ((mX8_prefixOf f_t_state x4_5).bind fun r37 =>
        ((mX8_name f_t_state x2_5).bind fun r42 =>
        mX8_roadsBetween_L5 f_t_state x1_5 x2_5 n (x3_5 + (if (mX8_begins r37 r42) = 0 then (0 : Int32) else 1)) (x4_5 + 1)))))))
def mX8_roadsBetween (f_t_state : Nat → Int32) (p1 : Int32) (p2 : Int32) : Option (Int32) :=
  ((mX8_roadsBetween_L5 f_t_state p1 p2 FU (-1) 0).bind fun (y3_5, y4_5) =>
  ((mX8_name f_t_state p1).bind fun r67 =>
  ((mX8_roadsTo f_t_state r67).bind fun r70 =>
  ((mX8_name f_t_state p2).bind fun r76 =>
  ((mX8_roadsTo f_t_state r76).bind fun r79 =>
  some ((r70 + r79) - (2 * y3_5)))))))
abbrev rmX8_roadsBetween : Room := { frames := 5, cells := 0, slots := 0, locals := 105 }
abbrev wX8_roadsBetween (cA : ClassId) (a_t a_t_state a_t_kept a_t_stack a_t_text : Nat) (v_t_thrown v_t_saved v_t_textLength v_t_place v_t_sign v_t_readLetters v_t_readLength v_t_readNumber : Int32) (f_t_state : Nat → Int32) : va_W := [(a_t, .inr (7, [.int v_t_thrown, .ref a_t_state, .ref a_t_kept, .ref a_t_stack, .int v_t_saved, .ref a_t_text, .int v_t_textLength, .int v_t_place, .int v_t_sign, .int v_t_readLetters, .int v_t_readLength, .int v_t_readNumber])), (a_t_state, .inl (cA, 255, .inl f_t_state))]
theorem iX8_roadsBetween_X8 : ∀ w ∈ wsX80, w ∈ wsX8_roadsBetween := (fun _ h => List.mem_cons_of_mem _ (List.mem_append_right _ h))
theorem hdX8_roadsBetween : yX8_roadsBetween.cls = RX8 ∧ yX8_roadsBetween.cls ≠ "java/lang/invoke/MethodHandle" ∧ yX8_roadsBetween.cls ≠ "java/lang/invoke/VarHandle" ∧ (parseMethodDescriptor yX8_roadsBetween.desc).map (fun d => d.parameters.length) = some 2 := by decide +kernel
set_option maxHeartbeats 4000000 in
set_option maxRecDepth 100000 in
theorem wX8_roadsBetween_L5 {p : Program} {l : Launch} {e : Env} {s : State} {m : MethodId} {args : Array Value} {below : List Frame} {meth : Method} {c : Code} {Q : State → Prop} {H : Heap} (dC : Nat → ClassId) (dI : Nat → Nat → Nat) (cA : ClassId) (a_t a_t_state a_t_kept a_t_stack a_t_text : Nat) (v_t_thrown v_t_saved v_t_textLength v_t_place v_t_sign v_t_readLetters v_t_readLength v_t_readNumber : Int32) (f_t_state : Nat → Int32) (p1 p2 x1_5 x2_5 y3_5 y4_5 : Int32) (hx : p.tables.exec = Jvm.exec) (hb : c.code = cX8_roadsBetween) (hml : c.maxLocals = 5) (hown : s.vm.findClass RX8 = some m.cls) (hts : ∀ w ∈ wsX8_roadsBetween, w.before args s = true) (hK : va_K (dC, dI) vwCl [(cA, .int)] s) (hP : va_P (dC, dI) vwCl [(a_t, .inr (7, [.int v_t_thrown, .ref a_t_state, .ref a_t_kept, .ref a_t_stack, .int v_t_saved, .ref a_t_text, .int v_t_textLength, .int v_t_place, .int v_t_sign, .int v_t_readLetters, .int v_t_readLength, .int v_t_readNumber])), (a_t_state, .inl (cA, 255, .inl f_t_state))] H)
    (kk0 : ∀ ls : Array Slot, lv_has ls 5 [(0, .ref a_t), (1, .int x1_5), (2, .int x2_5), (3, .int y3_5), (4, .int y4_5)] → W p l e (headSpec wsX8_roadsBetween rmX8_roadsBetween).room s m args below meth c H [] 0 0 Q (F0 m 64 ls [])) :
    ∀ (n : Nat) (x3_5 x4_5 : Int32), mX8_roadsBetween_L5 f_t_state x1_5 x2_5 n x3_5 x4_5 = some (y3_5, y4_5) → ∀ ls : Array Slot, lv_has ls 5 [(0, .ref a_t), (1, .int x1_5), (2, .int x2_5), (3, .int x3_5), (4, .int x4_5)] → W p l e (headSpec wsX8_roadsBetween rmX8_roadsBetween).room s m args below meth c H [] 0 0 Q (F0 m 5 ls []) := by
  intro n
  induction n with
  | zero =>
    intro x3_5 x4_5 hm
    cases hm
  | succ n ih =>
    intro x3_5 x4_5 hm ls hl
    rw [mX8_roadsBetween_L5] at hm
    refine lv_iload hx hb dX8_roadsBetween_5 (lv_at hl 4 rfl) ?_
    refine lv_aload_n hx hb dX8_roadsBetween_7 rfl (lv_at hl 0 rfl) ?_
    refine va_get (D := (dC, dI)) (ci := 7) (C := RX8) (T := TX8) (N := 12) hx hb hts iX8_roadsBetween_X8 hown hK hP 0 rfl rfl 1 (by decide) (hts _ (List.mem_of_getElem? (i := 1) rfl)) (fun _ h9 => h9) rfl dX8_roadsBetween_8 ?_
    refine lv_iconst (v := 2) hx hb dX8_roadsBetween_11 (by decide) ?_
    refine xa_ldK hx hb hK hP 1 0 rfl rfl 2 rfl (by decide) (by decide) dX8_roadsBetween_12 ?_
    refine lv_icmp_ge (tgt := 64) hx hb dX8_roadsBetween_13 (by decide) (fun c13 => ?_) (fun c13 => ?_)
    · rw [if_pos c13] at hm
      cases hm
      exact kk0 _ (lv_sub hl [0, 1, 2, 3, 4] rfl)
    · rw [if_neg c13] at hm
      refine lv_iload_n hx hb dX8_roadsBetween_16 rfl (lv_at hl 3 rfl) ?_
      refine lv_aload_n hx hb dX8_roadsBetween_17 rfl (lv_at hl 0 rfl) ?_
      refine lv_iload hx hb dX8_roadsBetween_18 (lv_at hl 4 rfl) ?_
      obtain ⟨r20, e20, hm⟩ := bs hm
      try dsimp only at hm
      refine ro_callVe ⟨hx, hb, hml, hown, hts⟩ (kX8_prefixOf l dC dI cA a_t a_t_state a_t_kept a_t_stack a_t_text v_t_thrown v_t_saved v_t_textLength v_t_place v_t_sign v_t_readLetters v_t_readLength v_t_readNumber f_t_state x4_5 r20 e20) (cwV 1 hts gX8_roadsBetween_X8_prefixOf rfl rfl rfl hdX8_prefixOf ⟨Nat.le_of_ble_eq_true rfl, Nat.le_of_ble_eq_true rfl⟩) (hP.sub [0, 1] rfl) hK rfl rfl rfl hl.1 rfl (Nat.le_of_ble_eq_true rfl) dX8_roadsBetween_20 ⟨Nat.zero_le _, Nat.zero_le _⟩ ?_
      refine lv_aload_n hx hb dX8_roadsBetween_23 rfl (lv_at hl 0 rfl) ?_
      refine lv_iload_n hx hb dX8_roadsBetween_24 rfl (lv_at hl 1 rfl) ?_
      obtain ⟨r25, e25, hm⟩ := bs hm
      try dsimp only at hm
      refine ro_callVe ⟨hx, hb, hml, hown, hts⟩ (kX8_name l dC dI cA a_t a_t_state a_t_kept a_t_stack a_t_text v_t_thrown v_t_saved v_t_textLength v_t_place v_t_sign v_t_readLetters v_t_readLength v_t_readNumber f_t_state x1_5 r25 e25) (cwV 1 hts gX8_roadsBetween_X8_name rfl rfl rfl hdX8_name ⟨Nat.le_of_ble_eq_true rfl, Nat.le_of_ble_eq_true rfl⟩) (hP.sub [0, 1] rfl) hK rfl rfl rfl hl.1 rfl (Nat.le_of_ble_eq_true rfl) dX8_roadsBetween_25 ⟨Nat.zero_le _, Nat.zero_le _⟩ ?_
      refine sp_callSz ⟨hx, hb, hml, hown, hts⟩ (kX8_begins l r20 r25) (va_cwS 2 hts gX8_roadsBetween_X8_begins rfl rfl rfl hdX8_begins.2 ⟨Nat.le_of_ble_eq_true rfl, Nat.le_of_ble_eq_true rfl⟩) rfl hl.1 rfl (Nat.le_of_ble_eq_true rfl) dX8_roadsBetween_28 ⟨Nat.zero_le _, Nat.zero_le _⟩ (fun hb28 => ?_)
      refine lv_if_eq (tgt := 55) hx hb dX8_roadsBetween_31 (by decide) (fun c31 => ?_) (fun c31 => ?_)
      · rw [if_pos c31] at hm
        refine lv_iconst (v := 0) hx hb dX8_roadsBetween_55 (by decide) ?_
        refine lv_iadd hx hb dX8_roadsBetween_56 ?_
        refine lv_istore_n (lv' := [(3, .int (x3_5 + 0)), (0, .ref a_t), (1, .int x1_5), (2, .int x2_5), (4, .int x4_5)]) hx hb dX8_roadsBetween_57 rfl hl (by decide) rfl (fun ls hl => ?_)
        refine lv_iinc (v := (x4_5 + 1)) (lv' := [(4, .int (x4_5 + 1)), (3, .int (x3_5 + 0)), (0, .ref a_t), (1, .int x1_5), (2, .int x2_5)]) hx hb dX8_roadsBetween_58 hl (k := 4) rfl rfl (by decide) rfl (fun ls hl => ?_)
        refine lv_goto (tgt := 5) hx hb dX8_roadsBetween_61 (by decide) ?_
        exact ih _ _ hm _ (lv_sub hl [2, 3, 4, 1, 0] rfl)
      · rw [if_neg c31] at hm
        refine lv_aload_n hx hb dX8_roadsBetween_34 rfl (lv_at hl 0 rfl) ?_
        refine lv_iload hx hb dX8_roadsBetween_35 (lv_at hl 4 rfl) ?_
        obtain ⟨r37, e37, hm⟩ := bs hm
        try dsimp only at hm
        refine ro_callVe ⟨hx, hb, hml, hown, hts⟩ (kX8_prefixOf l dC dI cA a_t a_t_state a_t_kept a_t_stack a_t_text v_t_thrown v_t_saved v_t_textLength v_t_place v_t_sign v_t_readLetters v_t_readLength v_t_readNumber f_t_state x4_5 r37 e37) (cwV 1 hts gX8_roadsBetween_X8_prefixOf rfl rfl rfl hdX8_prefixOf ⟨Nat.le_of_ble_eq_true rfl, Nat.le_of_ble_eq_true rfl⟩) (hP.sub [0, 1] rfl) hK rfl rfl rfl hl.1 rfl (Nat.le_of_ble_eq_true rfl) dX8_roadsBetween_37 ⟨Nat.zero_le _, Nat.zero_le _⟩ ?_
        refine lv_aload_n hx hb dX8_roadsBetween_40 rfl (lv_at hl 0 rfl) ?_
        refine lv_iload_n hx hb dX8_roadsBetween_41 rfl (lv_at hl 2 rfl) ?_
        obtain ⟨r42, e42, hm⟩ := bs hm
        try dsimp only at hm
        refine ro_callVe ⟨hx, hb, hml, hown, hts⟩ (kX8_name l dC dI cA a_t a_t_state a_t_kept a_t_stack a_t_text v_t_thrown v_t_saved v_t_textLength v_t_place v_t_sign v_t_readLetters v_t_readLength v_t_readNumber f_t_state x2_5 r42 e42) (cwV 1 hts gX8_roadsBetween_X8_name rfl rfl rfl hdX8_name ⟨Nat.le_of_ble_eq_true rfl, Nat.le_of_ble_eq_true rfl⟩) (hP.sub [0, 1] rfl) hK rfl rfl rfl hl.1 rfl (Nat.le_of_ble_eq_true rfl) dX8_roadsBetween_42 ⟨Nat.zero_le _, Nat.zero_le _⟩ ?_
        refine sp_callSz ⟨hx, hb, hml, hown, hts⟩ (kX8_begins l r37 r42) (va_cwS 2 hts gX8_roadsBetween_X8_begins rfl rfl rfl hdX8_begins.2 ⟨Nat.le_of_ble_eq_true rfl, Nat.le_of_ble_eq_true rfl⟩) rfl hl.1 rfl (Nat.le_of_ble_eq_true rfl) dX8_roadsBetween_45 ⟨Nat.zero_le _, Nat.zero_le _⟩ (fun hb45 => ?_)
        refine lv_if_eq (tgt := 55) hx hb dX8_roadsBetween_48 (by decide) (fun c48 => ?_) (fun c48 => ?_)
        · try simp only [if_pos c48] at hm
          refine lv_iconst (v := 0) hx hb dX8_roadsBetween_55 (by decide) ?_
          refine lv_iadd hx hb dX8_roadsBetween_56 ?_
          refine lv_istore_n (lv' := [(3, .int (x3_5 + 0)), (0, .ref a_t), (1, .int x1_5), (2, .int x2_5), (4, .int x4_5)]) hx hb dX8_roadsBetween_57 rfl hl (by decide) rfl (fun ls hl => ?_)
          refine lv_iinc (v := (x4_5 + 1)) (lv' := [(4, .int (x4_5 + 1)), (3, .int (x3_5 + 0)), (0, .ref a_t), (1, .int x1_5), (2, .int x2_5)]) hx hb dX8_roadsBetween_58 hl (k := 4) rfl rfl (by decide) rfl (fun ls hl => ?_)
          refine lv_goto (tgt := 5) hx hb dX8_roadsBetween_61 (by decide) ?_
          exact ih _ _ hm _ (lv_sub hl [2, 3, 4, 1, 0] rfl)
        · try simp only [if_neg c48] at hm
          refine lv_iconst (v := 1) hx hb dX8_roadsBetween_51 (by decide) ?_
          refine lv_goto (tgt := 56) hx hb dX8_roadsBetween_52 (by decide) ?_
          refine lv_iadd hx hb dX8_roadsBetween_56 ?_
          refine lv_istore_n (lv' := [(3, .int (x3_5 + 1)), (0, .ref a_t), (1, .int x1_5), (2, .int x2_5), (4, .int x4_5)]) hx hb dX8_roadsBetween_57 rfl hl (by decide) rfl (fun ls hl => ?_)
          refine lv_iinc (v := (x4_5 + 1)) (lv' := [(4, .int (x4_5 + 1)), (3, .int (x3_5 + 1)), (0, .ref a_t), (1, .int x1_5), (2, .int x2_5)]) hx hb dX8_roadsBetween_58 hl (k := 4) rfl rfl (by decide) rfl (fun ls hl => ?_)
          refine lv_goto (tgt := 5) hx hb dX8_roadsBetween_61 (by decide) ?_
          exact ih _ _ hm _ (lv_sub hl [2, 3, 4, 1, 0] rfl)
set_option maxHeartbeats 4000000 in
set_option maxRecDepth 100000 in
theorem kX8_roadsBetween (l : Launch) (dC : Nat → ClassId) (dI : Nat → Nat → Nat) (cA : ClassId) (a_t a_t_state a_t_kept a_t_stack a_t_text : Nat) (v_t_thrown v_t_saved v_t_textLength v_t_place v_t_sign v_t_readLetters v_t_readLength v_t_readNumber : Int32) (f_t_state : Nat → Int32) (p1 p2 r : Int32) (hm : (mX8_roadsBetween f_t_state p1 p2) = some r) : Met l yX8_roadsBetween wsX8_roadsBetween rmX8_roadsBetween (rpc (dC, dI) [(cA, .int)] (wX8_roadsBetween cA a_t a_t_state a_t_kept a_t_stack a_t_text v_t_thrown v_t_saved v_t_textLength v_t_place v_t_sign v_t_readLetters v_t_readLength v_t_readNumber f_t_state) [.ref a_t, .int p1, .int p2]) (vp_Si (fun x => x = r)) 0 0 (fun _ => False) := by
  unfold mX8_roadsBetween at hm
  refine ro_ofW (cc := cX8_roadsBetween) (maxL := 5) (ret := (some .int)) (own := RX8) (by decide) rfl rfl (Nat.le_of_ble_eq_true rfl) ?_
  intro p e s m args below meth c hx hb hr hts hown hlocks hml hP hK ls hl
  have hl : lv_has ls 5 [(0, .ref a_t), (1, .int p1), (2, .int p2)] := hl
  have hP : va_P (dC, dI) vwCl [(a_t, .inr (7, [.int v_t_thrown, .ref a_t_state, .ref a_t_kept, .ref a_t_stack, .int v_t_saved, .ref a_t_text, .int v_t_textLength, .int v_t_place, .int v_t_sign, .int v_t_readLetters, .int v_t_readLength, .int v_t_readNumber])), (a_t_state, .inl (cA, 255, .inl f_t_state))] s.heap := hP
  refine lv_iconst (v := (-1)) hx hb dX8_roadsBetween_0 (by decide) ?_
  refine lv_istore_n (lv' := [(3, .int (-1)), (0, .ref a_t), (1, .int p1), (2, .int p2)]) hx hb dX8_roadsBetween_1 rfl hl (by decide) rfl (fun ls hl => ?_)
  refine lv_iconst (v := 0) hx hb dX8_roadsBetween_2 (by decide) ?_
  refine lv_istore (lv' := [(4, .int 0), (3, .int (-1)), (0, .ref a_t), (1, .int p1), (2, .int p2)]) hx hb dX8_roadsBetween_3 hl (by decide) rfl (fun ls hl => ?_)
  obtain ⟨⟨y3_5, y4_5⟩, e5, hm⟩ := bs hm
  try dsimp only at hm
  refine wX8_roadsBetween_L5 dC dI cA a_t a_t_state a_t_kept a_t_stack a_t_text v_t_thrown v_t_saved v_t_textLength v_t_place v_t_sign v_t_readLetters v_t_readLength v_t_readNumber f_t_state p1 p2 p1 p2 y3_5 y4_5 hx hb hml hown hts hK (hP.sub [0, 1] rfl) ?_ FU _ _ e5 _ (lv_sub hl [2, 3, 4, 1, 0] rfl)
  · intro ls hl
    refine lv_aload_n hx hb dX8_roadsBetween_64 rfl (lv_at hl 0 rfl) ?_
    refine lv_aload_n hx hb dX8_roadsBetween_65 rfl (lv_at hl 0 rfl) ?_
    refine lv_iload_n hx hb dX8_roadsBetween_66 rfl (lv_at hl 1 rfl) ?_
    obtain ⟨r67, e67, hm⟩ := bs hm
    try dsimp only at hm
    refine ro_callVe ⟨hx, hb, hml, hown, hts⟩ (kX8_name l dC dI cA a_t a_t_state a_t_kept a_t_stack a_t_text v_t_thrown v_t_saved v_t_textLength v_t_place v_t_sign v_t_readLetters v_t_readLength v_t_readNumber f_t_state p1 r67 e67) (cwV 1 hts gX8_roadsBetween_X8_name rfl rfl rfl hdX8_name ⟨Nat.le_of_ble_eq_true rfl, Nat.le_of_ble_eq_true rfl⟩) (hP.sub [0, 1] rfl) hK rfl rfl rfl hl.1 rfl (Nat.le_of_ble_eq_true rfl) dX8_roadsBetween_67 ⟨Nat.zero_le _, Nat.zero_le _⟩ ?_
    obtain ⟨r70, e70, hm⟩ := bs hm
    try dsimp only at hm
    refine ro_callVe ⟨hx, hb, hml, hown, hts⟩ (kX8_roadsTo l dC dI cA a_t a_t_state a_t_kept a_t_stack a_t_text v_t_thrown v_t_saved v_t_textLength v_t_place v_t_sign v_t_readLetters v_t_readLength v_t_readNumber f_t_state r67 r70 e70) (cwV 1 hts gX8_roadsBetween_X8_roadsTo rfl rfl rfl hdX8_roadsTo ⟨Nat.le_of_ble_eq_true rfl, Nat.le_of_ble_eq_true rfl⟩) (hP.sub [0, 1] rfl) hK rfl rfl rfl hl.1 rfl (Nat.le_of_ble_eq_true rfl) dX8_roadsBetween_70 ⟨Nat.zero_le _, Nat.zero_le _⟩ ?_
    refine lv_aload_n hx hb dX8_roadsBetween_73 rfl (lv_at hl 0 rfl) ?_
    refine lv_aload_n hx hb dX8_roadsBetween_74 rfl (lv_at hl 0 rfl) ?_
    refine lv_iload_n hx hb dX8_roadsBetween_75 rfl (lv_at hl 2 rfl) ?_
    obtain ⟨r76, e76, hm⟩ := bs hm
    try dsimp only at hm
    refine ro_callVe ⟨hx, hb, hml, hown, hts⟩ (kX8_name l dC dI cA a_t a_t_state a_t_kept a_t_stack a_t_text v_t_thrown v_t_saved v_t_textLength v_t_place v_t_sign v_t_readLetters v_t_readLength v_t_readNumber f_t_state p2 r76 e76) (cwV 1 hts gX8_roadsBetween_X8_name rfl rfl rfl hdX8_name ⟨Nat.le_of_ble_eq_true rfl, Nat.le_of_ble_eq_true rfl⟩) (hP.sub [0, 1] rfl) hK rfl rfl rfl hl.1 rfl (Nat.le_of_ble_eq_true rfl) dX8_roadsBetween_76 ⟨Nat.zero_le _, Nat.zero_le _⟩ ?_
    obtain ⟨r79, e79, hm⟩ := bs hm
    try dsimp only at hm
    refine ro_callVe ⟨hx, hb, hml, hown, hts⟩ (kX8_roadsTo l dC dI cA a_t a_t_state a_t_kept a_t_stack a_t_text v_t_thrown v_t_saved v_t_textLength v_t_place v_t_sign v_t_readLetters v_t_readLength v_t_readNumber f_t_state r76 r79 e79) (cwV 1 hts gX8_roadsBetween_X8_roadsTo rfl rfl rfl hdX8_roadsTo ⟨Nat.le_of_ble_eq_true rfl, Nat.le_of_ble_eq_true rfl⟩) (hP.sub [0, 1] rfl) hK rfl rfl rfl hl.1 rfl (Nat.le_of_ble_eq_true rfl) dX8_roadsBetween_79 ⟨Nat.zero_le _, Nat.zero_le _⟩ ?_
    refine lv_iadd hx hb dX8_roadsBetween_82 ?_
    refine lv_iconst (v := 2) hx hb dX8_roadsBetween_83 (by decide) ?_
    refine lv_iload_n hx hb dX8_roadsBetween_84 rfl (lv_at hl 3 rfl) ?_
    refine lv_imul hx hb dX8_roadsBetween_85 ?_
    refine lv_isub hx hb dX8_roadsBetween_86 ?_
    cases hm
    exact ro_iret hx hb hr rfl rfl dX8_roadsBetween_87 hlocks
def mX8_between (f_t_state : Nat → Int32) (p1 : Int32) (p2 : Int32) : Option (Int32 × Int32) :=
  (if (if (mX8_isRank f_t_state p1) = 0 then 1 else (if (mX8_isRank f_t_state p2) = 0 then (1 : Int32) else 0)) ≤ 0 then
    ((mX8_roadsBetween f_t_state p1 p2).bind fun r39 =>
    some (r39, (if (mX8_isRank f_t_state p1) = 0 then 1 else (if (mX8_isRank f_t_state p2) = 0 then (1 : Int32) else 0))))
  else
    some (0, (if (mX8_isRank f_t_state p1) = 0 then 1 else (if (mX8_isRank f_t_state p2) = 0 then (1 : Int32) else 0))))
abbrev rmX8_between : Room := { frames := 6, cells := 0, slots := 0, locals := 129 }
abbrev wX8_between (cA : ClassId) (a_t a_t_state a_t_kept a_t_stack a_t_text : Nat) (v_t_thrown v_t_saved v_t_textLength v_t_place v_t_sign v_t_readLetters v_t_readLength v_t_readNumber : Int32) (f_t_state : Nat → Int32) : va_W := [(a_t, .inr (7, [.int v_t_thrown, .ref a_t_state, .ref a_t_kept, .ref a_t_stack, .int v_t_saved, .ref a_t_text, .int v_t_textLength, .int v_t_place, .int v_t_sign, .int v_t_readLetters, .int v_t_readLength, .int v_t_readNumber])), (a_t_state, .inl (cA, 255, .inl f_t_state))]
theorem iX8_between_X8 : ∀ w ∈ wsX80, w ∈ wsX8_between := (fun _ h => List.mem_cons_of_mem _ (List.mem_append_right _ h))
theorem hdX8_between : yX8_between.cls = RX8 ∧ yX8_between.cls ≠ "java/lang/invoke/MethodHandle" ∧ yX8_between.cls ≠ "java/lang/invoke/VarHandle" ∧ (parseMethodDescriptor yX8_between.desc).map (fun d => d.parameters.length) = some 2 := by decide +kernel
set_option maxHeartbeats 4000000 in
set_option maxRecDepth 100000 in
theorem kX8_between (l : Launch) (dC : Nat → ClassId) (dI : Nat → Nat → Nat) (cA : ClassId) (a_t a_t_state a_t_kept a_t_stack a_t_text : Nat) (v_t_thrown v_t_saved v_t_textLength v_t_place v_t_sign v_t_readLetters v_t_readLength v_t_readNumber : Int32) (f_t_state : Nat → Int32) (p1 p2 : Int32) (sz : Nat) (r o_v_t_thrown : Int32) (hm : (mX8_between f_t_state p1 p2) = some (r, o_v_t_thrown)) : Met l yX8_between wsX8_between rmX8_between (mpc (dC, dI) [(cA, .int)] (wX8_between cA a_t a_t_state a_t_kept a_t_stack a_t_text v_t_thrown v_t_saved v_t_textLength v_t_place v_t_sign v_t_readLetters v_t_readLength v_t_readNumber f_t_state) [.ref a_t, .int p1, .int p2] sz) (mqi (dC, dI) [(cA, .int)] (va_A (wX8_between cA a_t a_t_state a_t_kept a_t_stack a_t_text v_t_thrown v_t_saved v_t_textLength v_t_place v_t_sign v_t_readLetters v_t_readLength v_t_readNumber f_t_state) sz) (wX8_between cA a_t a_t_state a_t_kept a_t_stack a_t_text o_v_t_thrown v_t_saved v_t_textLength v_t_place v_t_sign v_t_readLetters v_t_readLength v_t_readNumber f_t_state) (fun x => x = r)) 0 0 (va_A (wX8_between cA a_t a_t_state a_t_kept a_t_stack a_t_text v_t_thrown v_t_saved v_t_textLength v_t_place v_t_sign v_t_readLetters v_t_readLength v_t_readNumber f_t_state) sz) := by
  unfold mX8_between at hm
  refine mu_ofW (Qc := fun A => mqi (dC, dI) [(cA, .int)] A (wX8_between cA a_t a_t_state a_t_kept a_t_stack a_t_text o_v_t_thrown v_t_saved v_t_textLength v_t_place v_t_sign v_t_readLetters v_t_readLength v_t_readNumber f_t_state) (fun x => x = r)) (cc := cX8_between) (maxL := 3) (ret := (some .int)) (own := RX8) (by decide) rfl rfl (Nat.le_of_ble_eq_true rfl) ?_
  intro p e s m args below meth c hx hb hr hts hown hlocks hml hin A hA hP hD hS hK ls hl
  have hl : lv_has ls 3 [(0, .ref a_t), (1, .int p1), (2, .int p2)] := hl
  have hP : va_P (dC, dI) vwCl [(a_t, .inr (7, [.int v_t_thrown, .ref a_t_state, .ref a_t_kept, .ref a_t_stack, .int v_t_saved, .ref a_t_text, .int v_t_textLength, .int v_t_place, .int v_t_sign, .int v_t_readLetters, .int v_t_readLength, .int v_t_readNumber])), (a_t_state, .inl (cA, 255, .inl f_t_state))] s.heap := hP
  have hD : va_D A [(a_t, .inr (7, [.int v_t_thrown, .ref a_t_state, .ref a_t_kept, .ref a_t_stack, .int v_t_saved, .ref a_t_text, .int v_t_textLength, .int v_t_place, .int v_t_sign, .int v_t_readLetters, .int v_t_readLength, .int v_t_readNumber])), (a_t_state, .inl (cA, 255, .inl f_t_state))] := hD
  refine lv_aload_n hx hb dX8_between_0 rfl (lv_at hl 0 rfl) ?_
  refine lv_aload_n hx hb dX8_between_1 rfl (lv_at hl 0 rfl) ?_
  refine lv_iload_n hx hb dX8_between_2 rfl (lv_at hl 1 rfl) ?_
  refine ro_callVz ⟨hx, hb, hml, hown, hts⟩ (kX8_isRank l dC dI cA a_t a_t_state a_t_kept a_t_stack a_t_text v_t_thrown v_t_saved v_t_textLength v_t_place v_t_sign v_t_readLetters v_t_readLength v_t_readNumber f_t_state p1) (cwV 1 hts gX8_between_X8_isRank rfl rfl rfl hdX8_isRank ⟨Nat.le_of_ble_eq_true rfl, Nat.le_of_ble_eq_true rfl⟩) (hP.sub [0, 1] rfl) hK rfl rfl rfl hl.1 rfl (Nat.le_of_ble_eq_true rfl) dX8_between_3 ⟨Nat.zero_le _, Nat.zero_le _⟩ (fun hb3 => ?_)
  refine lv_if_eq (tgt := 21) hx hb dX8_between_6 (by decide) (fun c6 => ?_) (fun c6 => ?_)
  · try simp only [if_pos c6] at hm
    refine lv_iconst (v := 1) hx hb dX8_between_21 (by decide) ?_
    refine va_put (D := (dC, dI)) (ci := 7) (C := RX8) (T := TX8) (N := 12) (ty := .int) hx hb hts iX8_between_X8 tyX8 tyX8_ok nmX8 hown hK hP hD hS 0 rfl rfl 0 (by decide) (hts _ (List.mem_of_getElem? (i := 1) rfl)) (fun _ h9 => h9) rfl (by decide +kernel) rfl rfl (Nat.le_of_ble_eq_true rfl) dX8_between_22 (fun H locs hP hD hS => ?_)
    have hP : va_P (dC, dI) vwCl [(a_t, .inr (7, [.int 1, .ref a_t_state, .ref a_t_kept, .ref a_t_stack, .int v_t_saved, .ref a_t_text, .int v_t_textLength, .int v_t_place, .int v_t_sign, .int v_t_readLetters, .int v_t_readLength, .int v_t_readNumber])), (a_t_state, .inl (cA, 255, .inl f_t_state))] H := hP
    have hD : va_D A [(a_t, .inr (7, [.int 1, .ref a_t_state, .ref a_t_kept, .ref a_t_stack, .int v_t_saved, .ref a_t_text, .int v_t_textLength, .int v_t_place, .int v_t_sign, .int v_t_readLetters, .int v_t_readLength, .int v_t_readNumber])), (a_t_state, .inl (cA, 255, .inl f_t_state))] := hD
    refine lv_aload_n hx hb dX8_between_25 rfl (lv_at hl 0 rfl) ?_
    refine va_get (D := (dC, dI)) (ci := 7) (C := RX8) (T := TX8) (N := 12) hx hb hts iX8_between_X8 hown hK hP 0 rfl rfl 0 (by decide) (hts _ (List.mem_of_getElem? (i := 1) rfl)) (fun _ h9 => h9) rfl dX8_between_26 ?_
    refine lv_if_le (tgt := 36) hx hb dX8_between_29 (by decide) (fun c29 => absurd c29 (by decide)) (fun c29 => ?_)
    try rw [if_neg (show ¬ ((1 : Int32) ≤ 0) by decide)] at hm
    refine lv_iconst (v := 0) hx hb dX8_between_32 (by decide) ?_
    refine lv_goto (tgt := 42) hx hb dX8_between_33 (by decide) ?_
    cases hm
    exact mu_iret hx hb hr rfl rfl hP hD hS hK [0, 1] rfl (by decide) dX8_between_42 hlocks
  · try simp only [if_neg c6] at hm
    refine lv_aload_n hx hb dX8_between_9 rfl (lv_at hl 0 rfl) ?_
    refine lv_iload_n hx hb dX8_between_10 rfl (lv_at hl 2 rfl) ?_
    refine ro_callVz ⟨hx, hb, hml, hown, hts⟩ (kX8_isRank l dC dI cA a_t a_t_state a_t_kept a_t_stack a_t_text v_t_thrown v_t_saved v_t_textLength v_t_place v_t_sign v_t_readLetters v_t_readLength v_t_readNumber f_t_state p2) (cwV 1 hts gX8_between_X8_isRank rfl rfl rfl hdX8_isRank ⟨Nat.le_of_ble_eq_true rfl, Nat.le_of_ble_eq_true rfl⟩) (hP.sub [0, 1] rfl) hK rfl rfl rfl hl.1 rfl (Nat.le_of_ble_eq_true rfl) dX8_between_11 ⟨Nat.zero_le _, Nat.zero_le _⟩ (fun hb11 => ?_)
    refine lv_if_eq (tgt := 21) hx hb dX8_between_14 (by decide) (fun c14 => ?_) (fun c14 => ?_)
    · try simp only [if_pos c14] at hm
      refine lv_iconst (v := 1) hx hb dX8_between_21 (by decide) ?_
      refine va_put (D := (dC, dI)) (ci := 7) (C := RX8) (T := TX8) (N := 12) (ty := .int) hx hb hts iX8_between_X8 tyX8 tyX8_ok nmX8 hown hK hP hD hS 0 rfl rfl 0 (by decide) (hts _ (List.mem_of_getElem? (i := 1) rfl)) (fun _ h9 => h9) rfl (by decide +kernel) rfl rfl (Nat.le_of_ble_eq_true rfl) dX8_between_22 (fun H locs hP hD hS => ?_)
      have hP : va_P (dC, dI) vwCl [(a_t, .inr (7, [.int 1, .ref a_t_state, .ref a_t_kept, .ref a_t_stack, .int v_t_saved, .ref a_t_text, .int v_t_textLength, .int v_t_place, .int v_t_sign, .int v_t_readLetters, .int v_t_readLength, .int v_t_readNumber])), (a_t_state, .inl (cA, 255, .inl f_t_state))] H := hP
      have hD : va_D A [(a_t, .inr (7, [.int 1, .ref a_t_state, .ref a_t_kept, .ref a_t_stack, .int v_t_saved, .ref a_t_text, .int v_t_textLength, .int v_t_place, .int v_t_sign, .int v_t_readLetters, .int v_t_readLength, .int v_t_readNumber])), (a_t_state, .inl (cA, 255, .inl f_t_state))] := hD
      refine lv_aload_n hx hb dX8_between_25 rfl (lv_at hl 0 rfl) ?_
      refine va_get (D := (dC, dI)) (ci := 7) (C := RX8) (T := TX8) (N := 12) hx hb hts iX8_between_X8 hown hK hP 0 rfl rfl 0 (by decide) (hts _ (List.mem_of_getElem? (i := 1) rfl)) (fun _ h9 => h9) rfl dX8_between_26 ?_
      refine lv_if_le (tgt := 36) hx hb dX8_between_29 (by decide) (fun c29 => absurd c29 (by decide)) (fun c29 => ?_)
      try rw [if_neg (show ¬ ((1 : Int32) ≤ 0) by decide)] at hm
      refine lv_iconst (v := 0) hx hb dX8_between_32 (by decide) ?_
      refine lv_goto (tgt := 42) hx hb dX8_between_33 (by decide) ?_
      cases hm
      exact mu_iret hx hb hr rfl rfl hP hD hS hK [0, 1] rfl (by decide) dX8_between_42 hlocks
    · try simp only [if_neg c14] at hm
      refine lv_iconst (v := 0) hx hb dX8_between_17 (by decide) ?_
      refine lv_goto (tgt := 22) hx hb dX8_between_18 (by decide) ?_
      refine va_put (D := (dC, dI)) (ci := 7) (C := RX8) (T := TX8) (N := 12) (ty := .int) hx hb hts iX8_between_X8 tyX8 tyX8_ok nmX8 hown hK hP hD hS 0 rfl rfl 0 (by decide) (hts _ (List.mem_of_getElem? (i := 1) rfl)) (fun _ h9 => h9) rfl (by decide +kernel) rfl rfl (Nat.le_of_ble_eq_true rfl) dX8_between_22 (fun H locs hP hD hS => ?_)
      have hP : va_P (dC, dI) vwCl [(a_t, .inr (7, [.int 0, .ref a_t_state, .ref a_t_kept, .ref a_t_stack, .int v_t_saved, .ref a_t_text, .int v_t_textLength, .int v_t_place, .int v_t_sign, .int v_t_readLetters, .int v_t_readLength, .int v_t_readNumber])), (a_t_state, .inl (cA, 255, .inl f_t_state))] H := hP
      have hD : va_D A [(a_t, .inr (7, [.int 0, .ref a_t_state, .ref a_t_kept, .ref a_t_stack, .int v_t_saved, .ref a_t_text, .int v_t_textLength, .int v_t_place, .int v_t_sign, .int v_t_readLetters, .int v_t_readLength, .int v_t_readNumber])), (a_t_state, .inl (cA, 255, .inl f_t_state))] := hD
      refine lv_aload_n hx hb dX8_between_25 rfl (lv_at hl 0 rfl) ?_
      refine va_get (D := (dC, dI)) (ci := 7) (C := RX8) (T := TX8) (N := 12) hx hb hts iX8_between_X8 hown hK hP 0 rfl rfl 0 (by decide) (hts _ (List.mem_of_getElem? (i := 1) rfl)) (fun _ h9 => h9) rfl dX8_between_26 ?_
      refine lv_if_le (tgt := 36) hx hb dX8_between_29 (by decide) (fun c29 => ?_) (fun c29 => absurd c29 (by decide))
      try rw [if_pos (show (0 : Int32) ≤ 0 by decide)] at hm
      refine lv_aload_n hx hb dX8_between_36 rfl (lv_at hl 0 rfl) ?_
      refine lv_iload_n hx hb dX8_between_37 rfl (lv_at hl 1 rfl) ?_
      refine lv_iload_n hx hb dX8_between_38 rfl (lv_at hl 2 rfl) ?_
      obtain ⟨r39, e39, hm⟩ := bs hm
      try dsimp only at hm
      refine ro_callVe ⟨hx, hb, hml, hown, hts⟩ (kX8_roadsBetween l dC dI cA a_t a_t_state a_t_kept a_t_stack a_t_text 0 v_t_saved v_t_textLength v_t_place v_t_sign v_t_readLetters v_t_readLength v_t_readNumber f_t_state p1 p2 r39 e39) (cwV 2 hts gX8_between_X8_roadsBetween rfl rfl rfl hdX8_roadsBetween ⟨Nat.le_of_ble_eq_true rfl, Nat.le_of_ble_eq_true rfl⟩) (hP.sub [0, 1] rfl) hK rfl rfl rfl hl.1 rfl (Nat.le_of_ble_eq_true rfl) dX8_between_39 ⟨Nat.zero_le _, Nat.zero_le _⟩ ?_
      cases hm
      exact mu_iret hx hb hr rfl rfl hP hD hS hK [0, 1] rfl (by decide) dX8_between_42 hlocks
def mX8_tourOf_L39 (x1_39 : Int32) (f_t_state : Nat → Int32) : Nat → (Int32) → (Int32) → Option (Int32 × Int32)
  | 0, _, _ => none
  | n + 1, x2_39, x3_39 =>
    (if x1_39 ≤ x3_39 then
      some (x2_39, x3_39)
    else
      ((mX8_roadsBetween f_t_state (x3_39 - 1) x3_39).bind fun r50 =>
      mX8_tourOf_L39 x1_39 f_t_state n (x2_39 + r50) (x3_39 + 1)))
def mX8_tourOf (f_t_state : Nat → Int32) : Option (Int32) :=
  (if (f_t_state 1) = 0 then
    ((mX8_tourOf_L39 (f_t_state 1) f_t_state FU 0 1).bind fun (y2_39, y3_39) =>
    some y2_39)
  else
    ((mX8_name f_t_state 0).bind fun r18 =>
    ((mX8_roadsTo f_t_state r18).bind fun r21 =>
    ((mX8_name f_t_state ((f_t_state 1) - 1)).bind fun r29 =>
    ((mX8_roadsTo f_t_state r29).bind fun r32 =>
    ((mX8_tourOf_L39 (f_t_state 1) f_t_state FU (r21 + r32) 1).bind fun (y2_39, y3_39) =>
    some y2_39))))))
abbrev rmX8_tourOf : Room := { frames := 6, cells := 0, slots := 0, locals := 129 }
abbrev wX8_tourOf (cA : ClassId) (a_t a_t_state a_t_kept a_t_stack a_t_text : Nat) (v_t_thrown v_t_saved v_t_textLength v_t_place v_t_sign v_t_readLetters v_t_readLength v_t_readNumber : Int32) (f_t_state : Nat → Int32) : va_W := [(a_t, .inr (7, [.int v_t_thrown, .ref a_t_state, .ref a_t_kept, .ref a_t_stack, .int v_t_saved, .ref a_t_text, .int v_t_textLength, .int v_t_place, .int v_t_sign, .int v_t_readLetters, .int v_t_readLength, .int v_t_readNumber])), (a_t_state, .inl (cA, 255, .inl f_t_state))]
theorem iX8_tourOf_X8 : ∀ w ∈ wsX80, w ∈ wsX8_tourOf := (fun _ h => List.mem_cons_of_mem _ (List.mem_append_right _ h))
theorem hdX8_tourOf : yX8_tourOf.cls = RX8 ∧ yX8_tourOf.cls ≠ "java/lang/invoke/MethodHandle" ∧ yX8_tourOf.cls ≠ "java/lang/invoke/VarHandle" ∧ (parseMethodDescriptor yX8_tourOf.desc).map (fun d => d.parameters.length) = some 0 := by decide +kernel
set_option maxHeartbeats 4000000 in
set_option maxRecDepth 100000 in
theorem wX8_tourOf_L39 {p : Program} {l : Launch} {e : Env} {s : State} {m : MethodId} {args : Array Value} {below : List Frame} {meth : Method} {c : Code} {Q : State → Prop} {H : Heap} (dC : Nat → ClassId) (dI : Nat → Nat → Nat) (cA : ClassId) (a_t a_t_state a_t_kept a_t_stack a_t_text : Nat) (v_t_thrown v_t_saved v_t_textLength v_t_place v_t_sign v_t_readLetters v_t_readLength v_t_readNumber : Int32) (f_t_state : Nat → Int32) (x1_39 y2_39 y3_39 : Int32) (hx : p.tables.exec = Jvm.exec) (hb : c.code = cX8_tourOf) (hml : c.maxLocals = 4) (hown : s.vm.findClass RX8 = some m.cls) (hts : ∀ w ∈ wsX8_tourOf, w.before args s = true) (hK : va_K (dC, dI) vwCl [(cA, .int)] s) (hP : va_P (dC, dI) vwCl [(a_t, .inr (7, [.int v_t_thrown, .ref a_t_state, .ref a_t_kept, .ref a_t_stack, .int v_t_saved, .ref a_t_text, .int v_t_textLength, .int v_t_place, .int v_t_sign, .int v_t_readLetters, .int v_t_readLength, .int v_t_readNumber])), (a_t_state, .inl (cA, 255, .inl f_t_state))] H)
    (kk0 : ∀ ls : Array Slot, lv_has ls 4 [(0, .ref a_t), (1, .int x1_39), (2, .int y2_39), (3, .int y3_39)] → W p l e (headSpec wsX8_tourOf rmX8_tourOf).room s m args below meth c H [] 0 0 Q (F0 m 61 ls [])) :
    ∀ (n : Nat) (x2_39 x3_39 : Int32), mX8_tourOf_L39 x1_39 f_t_state n x2_39 x3_39 = some (y2_39, y3_39) → ∀ ls : Array Slot, lv_has ls 4 [(0, .ref a_t), (1, .int x1_39), (2, .int x2_39), (3, .int x3_39)] → W p l e (headSpec wsX8_tourOf rmX8_tourOf).room s m args below meth c H [] 0 0 Q (F0 m 39 ls []) := by
  intro n
  induction n with
  | zero =>
    intro x2_39 x3_39 hm
    cases hm
  | succ n ih =>
    intro x2_39 x3_39 hm ls hl
    rw [mX8_tourOf_L39] at hm
    refine lv_iload_n hx hb dX8_tourOf_39 rfl (lv_at hl 3 rfl) ?_
    refine lv_iload_n hx hb dX8_tourOf_40 rfl (lv_at hl 1 rfl) ?_
    refine lv_icmp_ge (tgt := 61) hx hb dX8_tourOf_41 (by decide) (fun c41 => ?_) (fun c41 => ?_)
    · rw [if_pos c41] at hm
      cases hm
      exact kk0 _ (lv_sub hl [0, 1, 2, 3] rfl)
    · rw [if_neg c41] at hm
      refine lv_iload_n hx hb dX8_tourOf_44 rfl (lv_at hl 2 rfl) ?_
      refine lv_aload_n hx hb dX8_tourOf_45 rfl (lv_at hl 0 rfl) ?_
      refine lv_iload_n hx hb dX8_tourOf_46 rfl (lv_at hl 3 rfl) ?_
      refine lv_iconst (v := 1) hx hb dX8_tourOf_47 (by decide) ?_
      refine lv_isub hx hb dX8_tourOf_48 ?_
      refine lv_iload_n hx hb dX8_tourOf_49 rfl (lv_at hl 3 rfl) ?_
      obtain ⟨r50, e50, hm⟩ := bs hm
      try dsimp only at hm
      refine ro_callVe ⟨hx, hb, hml, hown, hts⟩ (kX8_roadsBetween l dC dI cA a_t a_t_state a_t_kept a_t_stack a_t_text v_t_thrown v_t_saved v_t_textLength v_t_place v_t_sign v_t_readLetters v_t_readLength v_t_readNumber f_t_state (x3_39 - 1) x3_39 r50 e50) (cwV 2 hts gX8_tourOf_X8_roadsBetween rfl rfl rfl hdX8_roadsBetween ⟨Nat.le_of_ble_eq_true rfl, Nat.le_of_ble_eq_true rfl⟩) (hP.sub [0, 1] rfl) hK rfl rfl rfl hl.1 rfl (Nat.le_of_ble_eq_true rfl) dX8_tourOf_50 ⟨Nat.zero_le _, Nat.zero_le _⟩ ?_
      refine lv_iadd hx hb dX8_tourOf_53 ?_
      refine lv_istore_n (lv' := [(2, .int (x2_39 + r50)), (0, .ref a_t), (1, .int x1_39), (3, .int x3_39)]) hx hb dX8_tourOf_54 rfl hl (by decide) rfl (fun ls hl => ?_)
      refine lv_iinc (v := (x3_39 + 1)) (lv' := [(3, .int (x3_39 + 1)), (2, .int (x2_39 + r50)), (0, .ref a_t), (1, .int x1_39)]) hx hb dX8_tourOf_55 hl (k := 3) rfl rfl (by decide) rfl (fun ls hl => ?_)
      refine lv_goto (tgt := 39) hx hb dX8_tourOf_58 (by decide) ?_
      exact ih _ _ hm _ (lv_sub hl [2, 3, 1, 0] rfl)
set_option maxHeartbeats 4000000 in
set_option maxRecDepth 100000 in
theorem kX8_tourOf (l : Launch) (dC : Nat → ClassId) (dI : Nat → Nat → Nat) (cA : ClassId) (a_t a_t_state a_t_kept a_t_stack a_t_text : Nat) (v_t_thrown v_t_saved v_t_textLength v_t_place v_t_sign v_t_readLetters v_t_readLength v_t_readNumber : Int32) (f_t_state : Nat → Int32) (r : Int32) (hm : (mX8_tourOf f_t_state) = some r) : Met l yX8_tourOf wsX8_tourOf rmX8_tourOf (rpc (dC, dI) [(cA, .int)] (wX8_tourOf cA a_t a_t_state a_t_kept a_t_stack a_t_text v_t_thrown v_t_saved v_t_textLength v_t_place v_t_sign v_t_readLetters v_t_readLength v_t_readNumber f_t_state) [.ref a_t]) (vp_Si (fun x => x = r)) 0 0 (fun _ => False) := by
  unfold mX8_tourOf at hm
  refine ro_ofW (cc := cX8_tourOf) (maxL := 4) (ret := (some .int)) (own := RX8) (by decide) rfl rfl (Nat.le_of_ble_eq_true rfl) ?_
  intro p e s m args below meth c hx hb hr hts hown hlocks hml hP hK ls hl
  have hl : lv_has ls 4 [(0, .ref a_t)] := hl
  have hP : va_P (dC, dI) vwCl [(a_t, .inr (7, [.int v_t_thrown, .ref a_t_state, .ref a_t_kept, .ref a_t_stack, .int v_t_saved, .ref a_t_text, .int v_t_textLength, .int v_t_place, .int v_t_sign, .int v_t_readLetters, .int v_t_readLength, .int v_t_readNumber])), (a_t_state, .inl (cA, 255, .inl f_t_state))] s.heap := hP
  refine lv_aload_n hx hb dX8_tourOf_0 rfl (lv_at hl 0 rfl) ?_
  refine va_get (D := (dC, dI)) (ci := 7) (C := RX8) (T := TX8) (N := 12) hx hb hts iX8_tourOf_X8 hown hK hP 0 rfl rfl 1 (by decide) (hts _ (List.mem_of_getElem? (i := 1) rfl)) (fun _ h9 => h9) rfl dX8_tourOf_1 ?_
  refine lv_iconst (v := 1) hx hb dX8_tourOf_4 (by decide) ?_
  refine xa_ldK hx hb hK hP 1 0 rfl rfl 1 rfl (by decide) (by decide) dX8_tourOf_5 ?_
  refine lv_istore_n (lv' := [(1, .int (f_t_state 1)), (0, .ref a_t)]) hx hb dX8_tourOf_6 rfl hl (by decide) rfl (fun ls hl => ?_)
  refine lv_iload_n hx hb dX8_tourOf_7 rfl (lv_at hl 0 rfl) ?_
  refine lv_if_ne (tgt := 15) hx hb dX8_tourOf_8 (by decide) (fun c8 => ?_) (fun c8 => ?_)
  · rw [if_neg c8] at hm
    refine lv_aload_n hx hb dX8_tourOf_15 rfl (lv_at hl 1 rfl) ?_
    refine lv_aload_n hx hb dX8_tourOf_16 rfl (lv_at hl 1 rfl) ?_
    refine lv_iconst (v := 0) hx hb dX8_tourOf_17 (by decide) ?_
    obtain ⟨r18, e18, hm⟩ := bs hm
    try dsimp only at hm
    refine ro_callVe ⟨hx, hb, hml, hown, hts⟩ (kX8_name l dC dI cA a_t a_t_state a_t_kept a_t_stack a_t_text v_t_thrown v_t_saved v_t_textLength v_t_place v_t_sign v_t_readLetters v_t_readLength v_t_readNumber f_t_state 0 r18 e18) (cwV 1 hts gX8_tourOf_X8_name rfl rfl rfl hdX8_name ⟨Nat.le_of_ble_eq_true rfl, Nat.le_of_ble_eq_true rfl⟩) (hP.sub [0, 1] rfl) hK rfl rfl rfl hl.1 rfl (Nat.le_of_ble_eq_true rfl) dX8_tourOf_18 ⟨Nat.zero_le _, Nat.zero_le _⟩ ?_
    obtain ⟨r21, e21, hm⟩ := bs hm
    try dsimp only at hm
    refine ro_callVe ⟨hx, hb, hml, hown, hts⟩ (kX8_roadsTo l dC dI cA a_t a_t_state a_t_kept a_t_stack a_t_text v_t_thrown v_t_saved v_t_textLength v_t_place v_t_sign v_t_readLetters v_t_readLength v_t_readNumber f_t_state r18 r21 e21) (cwV 1 hts gX8_tourOf_X8_roadsTo rfl rfl rfl hdX8_roadsTo ⟨Nat.le_of_ble_eq_true rfl, Nat.le_of_ble_eq_true rfl⟩) (hP.sub [0, 1] rfl) hK rfl rfl rfl hl.1 rfl (Nat.le_of_ble_eq_true rfl) dX8_tourOf_21 ⟨Nat.zero_le _, Nat.zero_le _⟩ ?_
    refine lv_aload_n hx hb dX8_tourOf_24 rfl (lv_at hl 1 rfl) ?_
    refine lv_aload_n hx hb dX8_tourOf_25 rfl (lv_at hl 1 rfl) ?_
    refine lv_iload_n hx hb dX8_tourOf_26 rfl (lv_at hl 0 rfl) ?_
    refine lv_iconst (v := 1) hx hb dX8_tourOf_27 (by decide) ?_
    refine lv_isub hx hb dX8_tourOf_28 ?_
    obtain ⟨r29, e29, hm⟩ := bs hm
    try dsimp only at hm
    refine ro_callVe ⟨hx, hb, hml, hown, hts⟩ (kX8_name l dC dI cA a_t a_t_state a_t_kept a_t_stack a_t_text v_t_thrown v_t_saved v_t_textLength v_t_place v_t_sign v_t_readLetters v_t_readLength v_t_readNumber f_t_state ((f_t_state 1) - 1) r29 e29) (cwV 1 hts gX8_tourOf_X8_name rfl rfl rfl hdX8_name ⟨Nat.le_of_ble_eq_true rfl, Nat.le_of_ble_eq_true rfl⟩) (hP.sub [0, 1] rfl) hK rfl rfl rfl hl.1 rfl (Nat.le_of_ble_eq_true rfl) dX8_tourOf_29 ⟨Nat.zero_le _, Nat.zero_le _⟩ ?_
    obtain ⟨r32, e32, hm⟩ := bs hm
    try dsimp only at hm
    refine ro_callVe ⟨hx, hb, hml, hown, hts⟩ (kX8_roadsTo l dC dI cA a_t a_t_state a_t_kept a_t_stack a_t_text v_t_thrown v_t_saved v_t_textLength v_t_place v_t_sign v_t_readLetters v_t_readLength v_t_readNumber f_t_state r29 r32 e32) (cwV 1 hts gX8_tourOf_X8_roadsTo rfl rfl rfl hdX8_roadsTo ⟨Nat.le_of_ble_eq_true rfl, Nat.le_of_ble_eq_true rfl⟩) (hP.sub [0, 1] rfl) hK rfl rfl rfl hl.1 rfl (Nat.le_of_ble_eq_true rfl) dX8_tourOf_32 ⟨Nat.zero_le _, Nat.zero_le _⟩ ?_
    refine lv_iadd hx hb dX8_tourOf_35 ?_
    refine lv_istore_n (lv' := [(2, .int (r21 + r32)), (1, .int (f_t_state 1)), (0, .ref a_t)]) hx hb dX8_tourOf_36 rfl hl (by decide) rfl (fun ls hl => ?_)
    refine lv_iconst (v := 1) hx hb dX8_tourOf_37 (by decide) ?_
    refine lv_istore_n (lv' := [(3, .int 1), (2, .int (r21 + r32)), (1, .int (f_t_state 1)), (0, .ref a_t)]) hx hb dX8_tourOf_38 rfl hl (by decide) rfl (fun ls hl => ?_)
    obtain ⟨⟨y2_39, y3_39⟩, e39, hm⟩ := bs hm
    try dsimp only at hm
    refine wX8_tourOf_L39 dC dI cA a_t a_t_state a_t_kept a_t_stack a_t_text v_t_thrown v_t_saved v_t_textLength v_t_place v_t_sign v_t_readLetters v_t_readLength v_t_readNumber f_t_state (f_t_state 1) y2_39 y3_39 hx hb hml hown hts hK (hP.sub [0, 1] rfl) ?_ FU _ _ e39 _ (lv_sub hl [3, 2, 1, 0] rfl)
    · intro ls hl
      refine lv_iload_n hx hb dX8_tourOf_61 rfl (lv_at hl 2 rfl) ?_
      cases hm
      exact ro_iret hx hb hr rfl rfl dX8_tourOf_62 hlocks
  · rw [if_pos c8] at hm
    refine lv_iconst (v := 0) hx hb dX8_tourOf_11 (by decide) ?_
    refine lv_goto (tgt := 36) hx hb dX8_tourOf_12 (by decide) ?_
    refine lv_istore_n (lv' := [(2, .int 0), (1, .int (f_t_state 1)), (0, .ref a_t)]) hx hb dX8_tourOf_36 rfl hl (by decide) rfl (fun ls hl => ?_)
    refine lv_iconst (v := 1) hx hb dX8_tourOf_37 (by decide) ?_
    refine lv_istore_n (lv' := [(3, .int 1), (2, .int 0), (1, .int (f_t_state 1)), (0, .ref a_t)]) hx hb dX8_tourOf_38 rfl hl (by decide) rfl (fun ls hl => ?_)
    obtain ⟨⟨y2_39, y3_39⟩, e39, hm⟩ := bs hm
    try dsimp only at hm
    refine wX8_tourOf_L39 dC dI cA a_t a_t_state a_t_kept a_t_stack a_t_text v_t_thrown v_t_saved v_t_textLength v_t_place v_t_sign v_t_readLetters v_t_readLength v_t_readNumber f_t_state (f_t_state 1) y2_39 y3_39 hx hb hml hown hts hK (hP.sub [0, 1] rfl) ?_ FU _ _ e39 _ (lv_sub hl [3, 2, 1, 0] rfl)
    · intro ls hl
      refine lv_iload_n hx hb dX8_tourOf_61 rfl (lv_at hl 2 rfl) ?_
      cases hm
      exact ro_iret hx hb hr rfl rfl dX8_tourOf_62 hlocks
def mX8_tour (f_t_state : Nat → Int32) : Option (Int32 × Int32) :=
  ((mX8_tourOf f_t_state).bind fun r6 =>
  some (r6, 0))
abbrev rmX8_tour : Room := { frames := 7, cells := 0, slots := 0, locals := 152 }
abbrev wX8_tour (cA : ClassId) (a_t a_t_state a_t_kept a_t_stack a_t_text : Nat) (v_t_thrown v_t_saved v_t_textLength v_t_place v_t_sign v_t_readLetters v_t_readLength v_t_readNumber : Int32) (f_t_state : Nat → Int32) : va_W := [(a_t, .inr (7, [.int v_t_thrown, .ref a_t_state, .ref a_t_kept, .ref a_t_stack, .int v_t_saved, .ref a_t_text, .int v_t_textLength, .int v_t_place, .int v_t_sign, .int v_t_readLetters, .int v_t_readLength, .int v_t_readNumber])), (a_t_state, .inl (cA, 255, .inl f_t_state))]
theorem iX8_tour_X8 : ∀ w ∈ wsX80, w ∈ wsX8_tour := (fun _ h => List.mem_cons_of_mem _ (List.mem_append_right _ h))
theorem hdX8_tour : yX8_tour.cls = RX8 ∧ yX8_tour.cls ≠ "java/lang/invoke/MethodHandle" ∧ yX8_tour.cls ≠ "java/lang/invoke/VarHandle" ∧ (parseMethodDescriptor yX8_tour.desc).map (fun d => d.parameters.length) = some 0 := by decide +kernel
set_option maxHeartbeats 4000000 in
set_option maxRecDepth 100000 in
theorem kX8_tour (l : Launch) (dC : Nat → ClassId) (dI : Nat → Nat → Nat) (cA : ClassId) (a_t a_t_state a_t_kept a_t_stack a_t_text : Nat) (v_t_thrown v_t_saved v_t_textLength v_t_place v_t_sign v_t_readLetters v_t_readLength v_t_readNumber : Int32) (f_t_state : Nat → Int32) (sz : Nat) (r o_v_t_thrown : Int32) (hm : (mX8_tour f_t_state) = some (r, o_v_t_thrown)) : Met l yX8_tour wsX8_tour rmX8_tour (mpc (dC, dI) [(cA, .int)] (wX8_tour cA a_t a_t_state a_t_kept a_t_stack a_t_text v_t_thrown v_t_saved v_t_textLength v_t_place v_t_sign v_t_readLetters v_t_readLength v_t_readNumber f_t_state) [.ref a_t] sz) (mqi (dC, dI) [(cA, .int)] (va_A (wX8_tour cA a_t a_t_state a_t_kept a_t_stack a_t_text v_t_thrown v_t_saved v_t_textLength v_t_place v_t_sign v_t_readLetters v_t_readLength v_t_readNumber f_t_state) sz) (wX8_tour cA a_t a_t_state a_t_kept a_t_stack a_t_text o_v_t_thrown v_t_saved v_t_textLength v_t_place v_t_sign v_t_readLetters v_t_readLength v_t_readNumber f_t_state) (fun x => x = r)) 0 0 (va_A (wX8_tour cA a_t a_t_state a_t_kept a_t_stack a_t_text v_t_thrown v_t_saved v_t_textLength v_t_place v_t_sign v_t_readLetters v_t_readLength v_t_readNumber f_t_state) sz) := by
  unfold mX8_tour at hm
  refine mu_ofW (Qc := fun A => mqi (dC, dI) [(cA, .int)] A (wX8_tour cA a_t a_t_state a_t_kept a_t_stack a_t_text o_v_t_thrown v_t_saved v_t_textLength v_t_place v_t_sign v_t_readLetters v_t_readLength v_t_readNumber f_t_state) (fun x => x = r)) (cc := cX8_tour) (maxL := 1) (ret := (some .int)) (own := RX8) (by decide) rfl rfl (Nat.le_of_ble_eq_true rfl) ?_
  intro p e s m args below meth c hx hb hr hts hown hlocks hml hin A hA hP hD hS hK ls hl
  have hl : lv_has ls 1 [(0, .ref a_t)] := hl
  have hP : va_P (dC, dI) vwCl [(a_t, .inr (7, [.int v_t_thrown, .ref a_t_state, .ref a_t_kept, .ref a_t_stack, .int v_t_saved, .ref a_t_text, .int v_t_textLength, .int v_t_place, .int v_t_sign, .int v_t_readLetters, .int v_t_readLength, .int v_t_readNumber])), (a_t_state, .inl (cA, 255, .inl f_t_state))] s.heap := hP
  have hD : va_D A [(a_t, .inr (7, [.int v_t_thrown, .ref a_t_state, .ref a_t_kept, .ref a_t_stack, .int v_t_saved, .ref a_t_text, .int v_t_textLength, .int v_t_place, .int v_t_sign, .int v_t_readLetters, .int v_t_readLength, .int v_t_readNumber])), (a_t_state, .inl (cA, 255, .inl f_t_state))] := hD
  refine lv_aload_n hx hb dX8_tour_0 rfl (lv_at hl 0 rfl) ?_
  refine lv_iconst (v := 0) hx hb dX8_tour_1 (by decide) ?_
  refine va_put (D := (dC, dI)) (ci := 7) (C := RX8) (T := TX8) (N := 12) (ty := .int) hx hb hts iX8_tour_X8 tyX8 tyX8_ok nmX8 hown hK hP hD hS 0 rfl rfl 0 (by decide) (hts _ (List.mem_of_getElem? (i := 1) rfl)) (fun _ h9 => h9) rfl (by decide +kernel) rfl rfl (Nat.le_of_ble_eq_true rfl) dX8_tour_2 (fun H locs hP hD hS => ?_)
  have hP : va_P (dC, dI) vwCl [(a_t, .inr (7, [.int 0, .ref a_t_state, .ref a_t_kept, .ref a_t_stack, .int v_t_saved, .ref a_t_text, .int v_t_textLength, .int v_t_place, .int v_t_sign, .int v_t_readLetters, .int v_t_readLength, .int v_t_readNumber])), (a_t_state, .inl (cA, 255, .inl f_t_state))] H := hP
  have hD : va_D A [(a_t, .inr (7, [.int 0, .ref a_t_state, .ref a_t_kept, .ref a_t_stack, .int v_t_saved, .ref a_t_text, .int v_t_textLength, .int v_t_place, .int v_t_sign, .int v_t_readLetters, .int v_t_readLength, .int v_t_readNumber])), (a_t_state, .inl (cA, 255, .inl f_t_state))] := hD
  refine lv_aload_n hx hb dX8_tour_5 rfl (lv_at hl 0 rfl) ?_
  obtain ⟨r6, e6, hm⟩ := bs hm
  try dsimp only at hm
  refine ro_callVe ⟨hx, hb, hml, hown, hts⟩ (kX8_tourOf l dC dI cA a_t a_t_state a_t_kept a_t_stack a_t_text 0 v_t_saved v_t_textLength v_t_place v_t_sign v_t_readLetters v_t_readLength v_t_readNumber f_t_state r6 e6) (cwV 0 hts gX8_tour_X8_tourOf rfl rfl rfl hdX8_tourOf ⟨Nat.le_of_ble_eq_true rfl, Nat.le_of_ble_eq_true rfl⟩) (hP.sub [0, 1] rfl) hK rfl rfl rfl hl.1 rfl (Nat.le_of_ble_eq_true rfl) dX8_tour_6 ⟨Nat.zero_le _, Nat.zero_le _⟩ ?_
  cases hm
  exact mu_iret hx hb hr rfl rfl hP hD hS hK [0, 1] rfl (by decide) dX8_tour_9 hlocks
def mX8_costOf_L4 (f_t_state : Nat → Int32) : Nat → (Int32) → (Int32) → Option (Int32 × Int32)
  | 0, _, _ => none
  | n + 1, x1_4, x2_4 =>
    (if (f_t_state 1) ≤ x2_4 then
      some (x1_4, x2_4)
    else
      ((rdA 255 f_t_state (31 + x2_4)).bind fun r23 =>
      ((mX8_name f_t_state x2_4).bind fun r27 =>
      ((mX8_roadsTo f_t_state r27).bind fun r30 =>
      mX8_costOf_L4 f_t_state n (x1_4 + (r23 * r30)) (x2_4 + 1)))))
def mX8_costOf (f_t_state : Nat → Int32) : Option (Int32) :=
  ((mX8_costOf_L4 f_t_state FU 0 0).bind fun (y1_4, y2_4) =>
  some y1_4)
abbrev rmX8_costOf : Room := { frames := 5, cells := 0, slots := 0, locals := 105 }
abbrev wX8_costOf (cA : ClassId) (a_t a_t_state a_t_kept a_t_stack a_t_text : Nat) (v_t_thrown v_t_saved v_t_textLength v_t_place v_t_sign v_t_readLetters v_t_readLength v_t_readNumber : Int32) (f_t_state : Nat → Int32) : va_W := [(a_t, .inr (7, [.int v_t_thrown, .ref a_t_state, .ref a_t_kept, .ref a_t_stack, .int v_t_saved, .ref a_t_text, .int v_t_textLength, .int v_t_place, .int v_t_sign, .int v_t_readLetters, .int v_t_readLength, .int v_t_readNumber])), (a_t_state, .inl (cA, 255, .inl f_t_state))]
theorem iX8_costOf_X8 : ∀ w ∈ wsX80, w ∈ wsX8_costOf := (fun _ h => List.mem_cons_of_mem _ (List.mem_append_right _ h))
theorem hdX8_costOf : yX8_costOf.cls = RX8 ∧ yX8_costOf.cls ≠ "java/lang/invoke/MethodHandle" ∧ yX8_costOf.cls ≠ "java/lang/invoke/VarHandle" ∧ (parseMethodDescriptor yX8_costOf.desc).map (fun d => d.parameters.length) = some 0 := by decide +kernel
set_option maxHeartbeats 4000000 in
set_option maxRecDepth 100000 in
theorem wX8_costOf_L4 {p : Program} {l : Launch} {e : Env} {s : State} {m : MethodId} {args : Array Value} {below : List Frame} {meth : Method} {c : Code} {Q : State → Prop} {H : Heap} (dC : Nat → ClassId) (dI : Nat → Nat → Nat) (cA : ClassId) (a_t a_t_state a_t_kept a_t_stack a_t_text : Nat) (v_t_thrown v_t_saved v_t_textLength v_t_place v_t_sign v_t_readLetters v_t_readLength v_t_readNumber : Int32) (f_t_state : Nat → Int32) (y1_4 y2_4 : Int32) (hx : p.tables.exec = Jvm.exec) (hb : c.code = cX8_costOf) (hml : c.maxLocals = 3) (hown : s.vm.findClass RX8 = some m.cls) (hts : ∀ w ∈ wsX8_costOf, w.before args s = true) (hK : va_K (dC, dI) vwCl [(cA, .int)] s) (hP : va_P (dC, dI) vwCl [(a_t, .inr (7, [.int v_t_thrown, .ref a_t_state, .ref a_t_kept, .ref a_t_stack, .int v_t_saved, .ref a_t_text, .int v_t_textLength, .int v_t_place, .int v_t_sign, .int v_t_readLetters, .int v_t_readLength, .int v_t_readNumber])), (a_t_state, .inl (cA, 255, .inl f_t_state))] H)
    (kk0 : ∀ ls : Array Slot, lv_has ls 3 [(0, .ref a_t), (1, .int y1_4), (2, .int y2_4)] → W p l e (headSpec wsX8_costOf rmX8_costOf).room s m args below meth c H [] 0 0 Q (F0 m 42 ls [])) :
    ∀ (n : Nat) (x1_4 x2_4 : Int32), mX8_costOf_L4 f_t_state n x1_4 x2_4 = some (y1_4, y2_4) → ∀ ls : Array Slot, lv_has ls 3 [(0, .ref a_t), (1, .int x1_4), (2, .int x2_4)] → W p l e (headSpec wsX8_costOf rmX8_costOf).room s m args below meth c H [] 0 0 Q (F0 m 4 ls []) := by
  intro n
  induction n with
  | zero =>
    intro x1_4 x2_4 hm
    cases hm
  | succ n ih =>
    intro x1_4 x2_4 hm ls hl
    rw [mX8_costOf_L4] at hm
    refine lv_iload_n hx hb dX8_costOf_4 rfl (lv_at hl 2 rfl) ?_
    refine lv_aload_n hx hb dX8_costOf_5 rfl (lv_at hl 0 rfl) ?_
    refine va_get (D := (dC, dI)) (ci := 7) (C := RX8) (T := TX8) (N := 12) hx hb hts iX8_costOf_X8 hown hK hP 0 rfl rfl 1 (by decide) (hts _ (List.mem_of_getElem? (i := 1) rfl)) (fun _ h9 => h9) rfl dX8_costOf_6 ?_
    refine lv_iconst (v := 1) hx hb dX8_costOf_9 (by decide) ?_
    refine xa_ldK hx hb hK hP 1 0 rfl rfl 1 rfl (by decide) (by decide) dX8_costOf_10 ?_
    refine lv_icmp_ge (tgt := 42) hx hb dX8_costOf_11 (by decide) (fun c11 => ?_) (fun c11 => ?_)
    · rw [if_pos c11] at hm
      cases hm
      exact kk0 _ (lv_sub hl [0, 1, 2] rfl)
    · rw [if_neg c11] at hm
      refine lv_iload_n hx hb dX8_costOf_14 rfl (lv_at hl 1 rfl) ?_
      refine lv_aload_n hx hb dX8_costOf_15 rfl (lv_at hl 0 rfl) ?_
      refine va_get (D := (dC, dI)) (ci := 7) (C := RX8) (T := TX8) (N := 12) hx hb hts iX8_costOf_X8 hown hK hP 0 rfl rfl 1 (by decide) (hts _ (List.mem_of_getElem? (i := 1) rfl)) (fun _ h9 => h9) rfl dX8_costOf_16 ?_
      refine lv_bipush (v := 31) hx hb dX8_costOf_19 (by decide) ?_
      refine lv_iload_n hx hb dX8_costOf_21 rfl (lv_at hl 2 rfl) ?_
      refine lv_iadd hx hb dX8_costOf_22 ?_
      obtain ⟨r23, e23, hm⟩ := bs hm
      try dsimp only at hm
      refine xa_ldO hx hb hK hP 1 0 rfl rfl e23 dX8_costOf_23 ?_
      refine lv_aload_n hx hb dX8_costOf_24 rfl (lv_at hl 0 rfl) ?_
      refine lv_aload_n hx hb dX8_costOf_25 rfl (lv_at hl 0 rfl) ?_
      refine lv_iload_n hx hb dX8_costOf_26 rfl (lv_at hl 2 rfl) ?_
      obtain ⟨r27, e27, hm⟩ := bs hm
      try dsimp only at hm
      refine ro_callVe ⟨hx, hb, hml, hown, hts⟩ (kX8_name l dC dI cA a_t a_t_state a_t_kept a_t_stack a_t_text v_t_thrown v_t_saved v_t_textLength v_t_place v_t_sign v_t_readLetters v_t_readLength v_t_readNumber f_t_state x2_4 r27 e27) (cwV 1 hts gX8_costOf_X8_name rfl rfl rfl hdX8_name ⟨Nat.le_of_ble_eq_true rfl, Nat.le_of_ble_eq_true rfl⟩) (hP.sub [0, 1] rfl) hK rfl rfl rfl hl.1 rfl (Nat.le_of_ble_eq_true rfl) dX8_costOf_27 ⟨Nat.zero_le _, Nat.zero_le _⟩ ?_
      obtain ⟨r30, e30, hm⟩ := bs hm
      try dsimp only at hm
      refine ro_callVe ⟨hx, hb, hml, hown, hts⟩ (kX8_roadsTo l dC dI cA a_t a_t_state a_t_kept a_t_stack a_t_text v_t_thrown v_t_saved v_t_textLength v_t_place v_t_sign v_t_readLetters v_t_readLength v_t_readNumber f_t_state r27 r30 e30) (cwV 1 hts gX8_costOf_X8_roadsTo rfl rfl rfl hdX8_roadsTo ⟨Nat.le_of_ble_eq_true rfl, Nat.le_of_ble_eq_true rfl⟩) (hP.sub [0, 1] rfl) hK rfl rfl rfl hl.1 rfl (Nat.le_of_ble_eq_true rfl) dX8_costOf_30 ⟨Nat.zero_le _, Nat.zero_le _⟩ ?_
      refine lv_imul hx hb dX8_costOf_33 ?_
      refine lv_iadd hx hb dX8_costOf_34 ?_
      refine lv_istore_n (lv' := [(1, .int (x1_4 + (r23 * r30))), (0, .ref a_t), (2, .int x2_4)]) hx hb dX8_costOf_35 rfl hl (by decide) rfl (fun ls hl => ?_)
      refine lv_iinc (v := (x2_4 + 1)) (lv' := [(2, .int (x2_4 + 1)), (1, .int (x1_4 + (r23 * r30))), (0, .ref a_t)]) hx hb dX8_costOf_36 hl (k := 2) rfl rfl (by decide) rfl (fun ls hl => ?_)
      refine lv_goto (tgt := 4) hx hb dX8_costOf_39 (by decide) ?_
      exact ih _ _ hm _ (lv_sub hl [2, 1, 0] rfl)
set_option maxHeartbeats 4000000 in
set_option maxRecDepth 100000 in
theorem kX8_costOf (l : Launch) (dC : Nat → ClassId) (dI : Nat → Nat → Nat) (cA : ClassId) (a_t a_t_state a_t_kept a_t_stack a_t_text : Nat) (v_t_thrown v_t_saved v_t_textLength v_t_place v_t_sign v_t_readLetters v_t_readLength v_t_readNumber : Int32) (f_t_state : Nat → Int32) (r : Int32) (hm : (mX8_costOf f_t_state) = some r) : Met l yX8_costOf wsX8_costOf rmX8_costOf (rpc (dC, dI) [(cA, .int)] (wX8_costOf cA a_t a_t_state a_t_kept a_t_stack a_t_text v_t_thrown v_t_saved v_t_textLength v_t_place v_t_sign v_t_readLetters v_t_readLength v_t_readNumber f_t_state) [.ref a_t]) (vp_Si (fun x => x = r)) 0 0 (fun _ => False) := by
  unfold mX8_costOf at hm
  refine ro_ofW (cc := cX8_costOf) (maxL := 3) (ret := (some .int)) (own := RX8) (by decide) rfl rfl (Nat.le_of_ble_eq_true rfl) ?_
  intro p e s m args below meth c hx hb hr hts hown hlocks hml hP hK ls hl
  have hl : lv_has ls 3 [(0, .ref a_t)] := hl
  have hP : va_P (dC, dI) vwCl [(a_t, .inr (7, [.int v_t_thrown, .ref a_t_state, .ref a_t_kept, .ref a_t_stack, .int v_t_saved, .ref a_t_text, .int v_t_textLength, .int v_t_place, .int v_t_sign, .int v_t_readLetters, .int v_t_readLength, .int v_t_readNumber])), (a_t_state, .inl (cA, 255, .inl f_t_state))] s.heap := hP
  refine lv_iconst (v := 0) hx hb dX8_costOf_0 (by decide) ?_
  refine lv_istore_n (lv' := [(1, .int 0), (0, .ref a_t)]) hx hb dX8_costOf_1 rfl hl (by decide) rfl (fun ls hl => ?_)
  refine lv_iconst (v := 0) hx hb dX8_costOf_2 (by decide) ?_
  refine lv_istore_n (lv' := [(2, .int 0), (1, .int 0), (0, .ref a_t)]) hx hb dX8_costOf_3 rfl hl (by decide) rfl (fun ls hl => ?_)
  obtain ⟨⟨y1_4, y2_4⟩, e4, hm⟩ := bs hm
  try dsimp only at hm
  refine wX8_costOf_L4 dC dI cA a_t a_t_state a_t_kept a_t_stack a_t_text v_t_thrown v_t_saved v_t_textLength v_t_place v_t_sign v_t_readLetters v_t_readLength v_t_readNumber f_t_state  y1_4 y2_4 hx hb hml hown hts hK (hP.sub [0, 1] rfl) ?_ FU _ _ e4 _ (lv_sub hl [2, 1, 0] rfl)
  · intro ls hl
    refine lv_iload_n hx hb dX8_costOf_42 rfl (lv_at hl 1 rfl) ?_
    cases hm
    exact ro_iret hx hb hr rfl rfl dX8_costOf_43 hlocks
def mX8_wholeValue_L7 (f_t_state : Nat → Int32) : Nat → (Int32) → (Int32) → (Int32) → Option (Int32 × Int32 × Int32)
  | 0, _, _, _ => none
  | n + 1, x2_7, x3_7, x4_7 =>
    (if (f_t_state 2) ≤ x4_7 then
      some (x2_7, x3_7, x4_7)
    else
      ((mX8_labelOf f_t_state x4_7).bind fun r22 =>
      ((mX8_labelOf f_t_state x4_7).bind fun r30 =>
      (if r30 ≤ x3_7 then
        mX8_wholeValue_L7 f_t_state n (x2_7 + r22) x3_7 (x4_7 + 1)
      else
        ((mX8_labelOf f_t_state x4_7).bind fun r40 =>
        mX8_wholeValue_L7 f_t_state n (x2_7 + r22) r40 (x4_7 + 1))))))
def mX8_wholeValue_L60 (f_t_state : Nat → Int32) : Nat → (Int32) → (Int32) → Option (Int32 × Int32)
  | 0, _, _ => none
  | n + 1, x4_60, x5_60 =>
    (if (f_t_state 1) ≤ x5_60 then
      some (x4_60, x5_60)
    else
      ((mX8_name f_t_state x5_60).bind fun r75 =>
      ((mX8_roadsTo f_t_state r75).bind fun r78 =>
      (if r78 ≤ x4_60 then
        mX8_wholeValue_L60 f_t_state n x4_60 (x5_60 + 1)
      else
        ((mX8_name f_t_state x5_60).bind fun r90 =>
        ((mX8_roadsTo f_t_state r90).bind fun r93 =>
        mX8_wholeValue_L60 f_t_state n r93 (x5_60 + 1)))))))
def mX8_wholeValue (v_t_textLength : Int32) (f_t_state : Nat → Int32) (p1 : Int32) : Option (Int32) :=
  ((mX8_wholeValue_L7 f_t_state FU 0 0 1).bind fun (y2_7, y3_7, y4_7) =>
  ((mX8_wholeValue_L60 f_t_state FU 0 0).bind fun (y4_60, y5_60) =>
  (if p1 = 0 then
    some (f_t_state 1)
  else
    (if p1 = 1 then
      some (f_t_state 2)
    else
      (if p1 = 2 then
        some (f_t_state 0)
      else
        (if p1 = 3 then
          ((mX8_costOf f_t_state).bind fun r190 =>
          some r190)
        else
          (if p1 = 4 then
            some y2_7
          else
            (if p1 = 5 then
              some y3_7
            else
              (if p1 = 6 then
                some y4_60
              else
                (if p1 = 7 then
                  some (f_t_state 3)
                else
                  (if p1 = 8 then
                    some (f_t_state 4)
                  else
                    (if p1 = 9 then
                      some (f_t_state 5)
                    else
                      (if p1 = 10 then
                        some (f_t_state 6)
                      else
                        some v_t_textLength)))))))))))))
abbrev rmX8_wholeValue : Room := { frames := 6, cells := 0, slots := 0, locals := 127 }
abbrev wX8_wholeValue (cA : ClassId) (a_t a_t_state a_t_kept a_t_stack a_t_text : Nat) (v_t_thrown v_t_saved v_t_textLength v_t_place v_t_sign v_t_readLetters v_t_readLength v_t_readNumber : Int32) (f_t_state : Nat → Int32) : va_W := [(a_t, .inr (7, [.int v_t_thrown, .ref a_t_state, .ref a_t_kept, .ref a_t_stack, .int v_t_saved, .ref a_t_text, .int v_t_textLength, .int v_t_place, .int v_t_sign, .int v_t_readLetters, .int v_t_readLength, .int v_t_readNumber])), (a_t_state, .inl (cA, 255, .inl f_t_state))]
theorem iX8_wholeValue_X8 : ∀ w ∈ wsX80, w ∈ wsX8_wholeValue := (fun _ h => List.mem_cons_of_mem _ (List.mem_append_right _ h))
theorem hdX8_wholeValue : yX8_wholeValue.cls = RX8 ∧ yX8_wholeValue.cls ≠ "java/lang/invoke/MethodHandle" ∧ yX8_wholeValue.cls ≠ "java/lang/invoke/VarHandle" ∧ (parseMethodDescriptor yX8_wholeValue.desc).map (fun d => d.parameters.length) = some 1 := by decide +kernel
set_option maxHeartbeats 4000000 in
set_option maxRecDepth 100000 in
theorem wX8_wholeValue_L7 {p : Program} {l : Launch} {e : Env} {s : State} {m : MethodId} {args : Array Value} {below : List Frame} {meth : Method} {c : Code} {Q : State → Prop} {H : Heap} (dC : Nat → ClassId) (dI : Nat → Nat → Nat) (cA : ClassId) (a_t a_t_state a_t_kept a_t_stack a_t_text : Nat) (v_t_thrown v_t_saved v_t_textLength v_t_place v_t_sign v_t_readLetters v_t_readLength v_t_readNumber : Int32) (f_t_state : Nat → Int32) (p1 x1_7 y2_7 y3_7 y4_7 : Int32) (hx : p.tables.exec = Jvm.exec) (hb : c.code = cX8_wholeValue) (hml : c.maxLocals = 6) (hown : s.vm.findClass RX8 = some m.cls) (hts : ∀ w ∈ wsX8_wholeValue, w.before args s = true) (hK : va_K (dC, dI) vwCl [(cA, .int)] s) (hP : va_P (dC, dI) vwCl [(a_t, .inr (7, [.int v_t_thrown, .ref a_t_state, .ref a_t_kept, .ref a_t_stack, .int v_t_saved, .ref a_t_text, .int v_t_textLength, .int v_t_place, .int v_t_sign, .int v_t_readLetters, .int v_t_readLength, .int v_t_readNumber])), (a_t_state, .inl (cA, 255, .inl f_t_state))] H)
    (kk0 : ∀ ls : Array Slot, lv_has ls 6 [(0, .ref a_t), (1, .int x1_7), (2, .int y2_7), (3, .int y3_7), (4, .int y4_7)] → W p l e (headSpec wsX8_wholeValue rmX8_wholeValue).room s m args below meth c H [] 0 0 Q (F0 m 54 ls [])) :
    ∀ (n : Nat) (x2_7 x3_7 x4_7 : Int32), mX8_wholeValue_L7 f_t_state n x2_7 x3_7 x4_7 = some (y2_7, y3_7, y4_7) → ∀ ls : Array Slot, lv_has ls 6 [(0, .ref a_t), (1, .int x1_7), (2, .int x2_7), (3, .int x3_7), (4, .int x4_7)] → W p l e (headSpec wsX8_wholeValue rmX8_wholeValue).room s m args below meth c H [] 0 0 Q (F0 m 7 ls []) := by
  intro n
  induction n with
  | zero =>
    intro x2_7 x3_7 x4_7 hm
    cases hm
  | succ n ih =>
    intro x2_7 x3_7 x4_7 hm ls hl
    rw [mX8_wholeValue_L7] at hm
    refine lv_iload hx hb dX8_wholeValue_7 (lv_at hl 4 rfl) ?_
    refine lv_aload_n hx hb dX8_wholeValue_9 rfl (lv_at hl 0 rfl) ?_
    refine va_get (D := (dC, dI)) (ci := 7) (C := RX8) (T := TX8) (N := 12) hx hb hts iX8_wholeValue_X8 hown hK hP 0 rfl rfl 1 (by decide) (hts _ (List.mem_of_getElem? (i := 1) rfl)) (fun _ h9 => h9) rfl dX8_wholeValue_10 ?_
    refine lv_iconst (v := 2) hx hb dX8_wholeValue_13 (by decide) ?_
    refine xa_ldK hx hb hK hP 1 0 rfl rfl 2 rfl (by decide) (by decide) dX8_wholeValue_14 ?_
    refine lv_icmp_ge (tgt := 54) hx hb dX8_wholeValue_15 (by decide) (fun c15 => ?_) (fun c15 => ?_)
    · rw [if_pos c15] at hm
      cases hm
      exact kk0 _ (lv_sub hl [0, 1, 2, 3, 4] rfl)
    · rw [if_neg c15] at hm
      refine lv_iload_n hx hb dX8_wholeValue_18 rfl (lv_at hl 2 rfl) ?_
      refine lv_aload_n hx hb dX8_wholeValue_19 rfl (lv_at hl 0 rfl) ?_
      refine lv_iload hx hb dX8_wholeValue_20 (lv_at hl 4 rfl) ?_
      obtain ⟨r22, e22, hm⟩ := bs hm
      try dsimp only at hm
      refine ro_callVe ⟨hx, hb, hml, hown, hts⟩ (kX8_labelOf l dC dI cA a_t a_t_state a_t_kept a_t_stack a_t_text v_t_thrown v_t_saved v_t_textLength v_t_place v_t_sign v_t_readLetters v_t_readLength v_t_readNumber f_t_state x4_7 r22 e22) (cwV 1 hts gX8_wholeValue_X8_labelOf rfl rfl rfl hdX8_labelOf ⟨Nat.le_of_ble_eq_true rfl, Nat.le_of_ble_eq_true rfl⟩) (hP.sub [0, 1] rfl) hK rfl rfl rfl hl.1 rfl (Nat.le_of_ble_eq_true rfl) dX8_wholeValue_22 ⟨Nat.zero_le _, Nat.zero_le _⟩ ?_
      refine lv_iadd hx hb dX8_wholeValue_25 ?_
      refine lv_istore_n (lv' := [(2, .int (x2_7 + r22)), (0, .ref a_t), (1, .int x1_7), (3, .int x3_7), (4, .int x4_7)]) hx hb dX8_wholeValue_26 rfl hl (by decide) rfl (fun ls hl => ?_)
      refine lv_aload_n hx hb dX8_wholeValue_27 rfl (lv_at hl 1 rfl) ?_
      refine lv_iload hx hb dX8_wholeValue_28 (lv_at hl 4 rfl) ?_
      obtain ⟨r30, e30, hm⟩ := bs hm
      try dsimp only at hm
      refine ro_callVe ⟨hx, hb, hml, hown, hts⟩ (kX8_labelOf l dC dI cA a_t a_t_state a_t_kept a_t_stack a_t_text v_t_thrown v_t_saved v_t_textLength v_t_place v_t_sign v_t_readLetters v_t_readLength v_t_readNumber f_t_state x4_7 r30 e30) (cwV 1 hts gX8_wholeValue_X8_labelOf rfl rfl rfl hdX8_labelOf ⟨Nat.le_of_ble_eq_true rfl, Nat.le_of_ble_eq_true rfl⟩) (hP.sub [0, 1] rfl) hK rfl rfl rfl hl.1 rfl (Nat.le_of_ble_eq_true rfl) dX8_wholeValue_30 ⟨Nat.zero_le _, Nat.zero_le _⟩ ?_
      refine lv_iload_n hx hb dX8_wholeValue_33 rfl (lv_at hl 3 rfl) ?_
      refine lv_icmp_le (tgt := 46) hx hb dX8_wholeValue_34 (by decide) (fun c34 => ?_) (fun c34 => ?_)
      · rw [if_pos c34] at hm
        refine lv_iload_n hx hb dX8_wholeValue_46 rfl (lv_at hl 3 rfl) ?_
        refine lv_istore_n (lv' := [(3, .int x3_7), (2, .int (x2_7 + r22)), (0, .ref a_t), (1, .int x1_7), (4, .int x4_7)]) hx hb dX8_wholeValue_47 rfl hl (by decide) rfl (fun ls hl => ?_)
        refine lv_iinc (v := (x4_7 + 1)) (lv' := [(4, .int (x4_7 + 1)), (3, .int x3_7), (2, .int (x2_7 + r22)), (0, .ref a_t), (1, .int x1_7)]) hx hb dX8_wholeValue_48 hl (k := 4) rfl rfl (by decide) rfl (fun ls hl => ?_)
        refine lv_goto (tgt := 7) hx hb dX8_wholeValue_51 (by decide) ?_
        exact ih _ _ _ hm _ (lv_sub hl [3, 4, 2, 1, 0] rfl)
      · rw [if_neg c34] at hm
        refine lv_aload_n hx hb dX8_wholeValue_37 rfl (lv_at hl 1 rfl) ?_
        refine lv_iload hx hb dX8_wholeValue_38 (lv_at hl 4 rfl) ?_
        obtain ⟨r40, e40, hm⟩ := bs hm
        try dsimp only at hm
        refine ro_callVe ⟨hx, hb, hml, hown, hts⟩ (kX8_labelOf l dC dI cA a_t a_t_state a_t_kept a_t_stack a_t_text v_t_thrown v_t_saved v_t_textLength v_t_place v_t_sign v_t_readLetters v_t_readLength v_t_readNumber f_t_state x4_7 r40 e40) (cwV 1 hts gX8_wholeValue_X8_labelOf rfl rfl rfl hdX8_labelOf ⟨Nat.le_of_ble_eq_true rfl, Nat.le_of_ble_eq_true rfl⟩) (hP.sub [0, 1] rfl) hK rfl rfl rfl hl.1 rfl (Nat.le_of_ble_eq_true rfl) dX8_wholeValue_40 ⟨Nat.zero_le _, Nat.zero_le _⟩ ?_
        refine lv_goto (tgt := 47) hx hb dX8_wholeValue_43 (by decide) ?_
        refine lv_istore_n (lv' := [(3, .int r40), (2, .int (x2_7 + r22)), (0, .ref a_t), (1, .int x1_7), (4, .int x4_7)]) hx hb dX8_wholeValue_47 rfl hl (by decide) rfl (fun ls hl => ?_)
        refine lv_iinc (v := (x4_7 + 1)) (lv' := [(4, .int (x4_7 + 1)), (3, .int r40), (2, .int (x2_7 + r22)), (0, .ref a_t), (1, .int x1_7)]) hx hb dX8_wholeValue_48 hl (k := 4) rfl rfl (by decide) rfl (fun ls hl => ?_)
        refine lv_goto (tgt := 7) hx hb dX8_wholeValue_51 (by decide) ?_
        exact ih _ _ _ hm _ (lv_sub hl [3, 4, 2, 1, 0] rfl)
set_option maxHeartbeats 4000000 in
set_option maxRecDepth 100000 in
theorem wX8_wholeValue_L60 {p : Program} {l : Launch} {e : Env} {s : State} {m : MethodId} {args : Array Value} {below : List Frame} {meth : Method} {c : Code} {Q : State → Prop} {H : Heap} (dC : Nat → ClassId) (dI : Nat → Nat → Nat) (cA : ClassId) (a_t a_t_state a_t_kept a_t_stack a_t_text : Nat) (v_t_thrown v_t_saved v_t_textLength v_t_place v_t_sign v_t_readLetters v_t_readLength v_t_readNumber : Int32) (f_t_state : Nat → Int32) (p1 x1_60 x2_60 x3_60 y4_60 y5_60 : Int32) (hx : p.tables.exec = Jvm.exec) (hb : c.code = cX8_wholeValue) (hml : c.maxLocals = 6) (hown : s.vm.findClass RX8 = some m.cls) (hts : ∀ w ∈ wsX8_wholeValue, w.before args s = true) (hK : va_K (dC, dI) vwCl [(cA, .int)] s) (hP : va_P (dC, dI) vwCl [(a_t, .inr (7, [.int v_t_thrown, .ref a_t_state, .ref a_t_kept, .ref a_t_stack, .int v_t_saved, .ref a_t_text, .int v_t_textLength, .int v_t_place, .int v_t_sign, .int v_t_readLetters, .int v_t_readLength, .int v_t_readNumber])), (a_t_state, .inl (cA, 255, .inl f_t_state))] H)
    (kk0 : ∀ ls : Array Slot, lv_has ls 6 [(0, .ref a_t), (1, .int x1_60), (2, .int x2_60), (3, .int x3_60), (4, .int y4_60), (5, .int y5_60)] → W p l e (headSpec wsX8_wholeValue rmX8_wholeValue).room s m args below meth c H [] 0 0 Q (F0 m 109 ls [])) :
    ∀ (n : Nat) (x4_60 x5_60 : Int32), mX8_wholeValue_L60 f_t_state n x4_60 x5_60 = some (y4_60, y5_60) → ∀ ls : Array Slot, lv_has ls 6 [(0, .ref a_t), (1, .int x1_60), (2, .int x2_60), (3, .int x3_60), (4, .int x4_60), (5, .int x5_60)] → W p l e (headSpec wsX8_wholeValue rmX8_wholeValue).room s m args below meth c H [] 0 0 Q (F0 m 60 ls []) := by
  intro n
  induction n with
  | zero =>
    intro x4_60 x5_60 hm
    cases hm
  | succ n ih =>
    intro x4_60 x5_60 hm ls hl
    rw [mX8_wholeValue_L60] at hm
    refine lv_iload hx hb dX8_wholeValue_60 (lv_at hl 5 rfl) ?_
    refine lv_aload_n hx hb dX8_wholeValue_62 rfl (lv_at hl 0 rfl) ?_
    refine va_get (D := (dC, dI)) (ci := 7) (C := RX8) (T := TX8) (N := 12) hx hb hts iX8_wholeValue_X8 hown hK hP 0 rfl rfl 1 (by decide) (hts _ (List.mem_of_getElem? (i := 1) rfl)) (fun _ h9 => h9) rfl dX8_wholeValue_63 ?_
    refine lv_iconst (v := 1) hx hb dX8_wholeValue_66 (by decide) ?_
    refine xa_ldK hx hb hK hP 1 0 rfl rfl 1 rfl (by decide) (by decide) dX8_wholeValue_67 ?_
    refine lv_icmp_ge (tgt := 109) hx hb dX8_wholeValue_68 (by decide) (fun c68 => ?_) (fun c68 => ?_)
    · rw [if_pos c68] at hm
      cases hm
      exact kk0 _ (lv_sub hl [0, 1, 2, 3, 4, 5] rfl)
    · rw [if_neg c68] at hm
      refine lv_aload_n hx hb dX8_wholeValue_71 rfl (lv_at hl 0 rfl) ?_
      refine lv_aload_n hx hb dX8_wholeValue_72 rfl (lv_at hl 0 rfl) ?_
      refine lv_iload hx hb dX8_wholeValue_73 (lv_at hl 5 rfl) ?_
      obtain ⟨r75, e75, hm⟩ := bs hm
      try dsimp only at hm
      refine ro_callVe ⟨hx, hb, hml, hown, hts⟩ (kX8_name l dC dI cA a_t a_t_state a_t_kept a_t_stack a_t_text v_t_thrown v_t_saved v_t_textLength v_t_place v_t_sign v_t_readLetters v_t_readLength v_t_readNumber f_t_state x5_60 r75 e75) (cwV 1 hts gX8_wholeValue_X8_name rfl rfl rfl hdX8_name ⟨Nat.le_of_ble_eq_true rfl, Nat.le_of_ble_eq_true rfl⟩) (hP.sub [0, 1] rfl) hK rfl rfl rfl hl.1 rfl (Nat.le_of_ble_eq_true rfl) dX8_wholeValue_75 ⟨Nat.zero_le _, Nat.zero_le _⟩ ?_
      obtain ⟨r78, e78, hm⟩ := bs hm
      try dsimp only at hm
      refine ro_callVe ⟨hx, hb, hml, hown, hts⟩ (kX8_roadsTo l dC dI cA a_t a_t_state a_t_kept a_t_stack a_t_text v_t_thrown v_t_saved v_t_textLength v_t_place v_t_sign v_t_readLetters v_t_readLength v_t_readNumber f_t_state r75 r78 e78) (cwV 1 hts gX8_wholeValue_X8_roadsTo rfl rfl rfl hdX8_roadsTo ⟨Nat.le_of_ble_eq_true rfl, Nat.le_of_ble_eq_true rfl⟩) (hP.sub [0, 1] rfl) hK rfl rfl rfl hl.1 rfl (Nat.le_of_ble_eq_true rfl) dX8_wholeValue_78 ⟨Nat.zero_le _, Nat.zero_le _⟩ ?_
      refine lv_iload hx hb dX8_wholeValue_81 (lv_at hl 4 rfl) ?_
      refine lv_icmp_le (tgt := 99) hx hb dX8_wholeValue_83 (by decide) (fun c83 => ?_) (fun c83 => ?_)
      · rw [if_pos c83] at hm
        refine lv_iload hx hb dX8_wholeValue_99 (lv_at hl 4 rfl) ?_
        refine lv_istore (lv' := [(4, .int x4_60), (0, .ref a_t), (1, .int x1_60), (2, .int x2_60), (3, .int x3_60), (5, .int x5_60)]) hx hb dX8_wholeValue_101 hl (by decide) rfl (fun ls hl => ?_)
        refine lv_iinc (v := (x5_60 + 1)) (lv' := [(5, .int (x5_60 + 1)), (4, .int x4_60), (0, .ref a_t), (1, .int x1_60), (2, .int x2_60), (3, .int x3_60)]) hx hb dX8_wholeValue_103 hl (k := 5) rfl rfl (by decide) rfl (fun ls hl => ?_)
        refine lv_goto (tgt := 60) hx hb dX8_wholeValue_106 (by decide) ?_
        exact ih _ _ hm _ (lv_sub hl [2, 3, 4, 5, 1, 0] rfl)
      · rw [if_neg c83] at hm
        refine lv_aload_n hx hb dX8_wholeValue_86 rfl (lv_at hl 0 rfl) ?_
        refine lv_aload_n hx hb dX8_wholeValue_87 rfl (lv_at hl 0 rfl) ?_
        refine lv_iload hx hb dX8_wholeValue_88 (lv_at hl 5 rfl) ?_
        obtain ⟨r90, e90, hm⟩ := bs hm
        try dsimp only at hm
        refine ro_callVe ⟨hx, hb, hml, hown, hts⟩ (kX8_name l dC dI cA a_t a_t_state a_t_kept a_t_stack a_t_text v_t_thrown v_t_saved v_t_textLength v_t_place v_t_sign v_t_readLetters v_t_readLength v_t_readNumber f_t_state x5_60 r90 e90) (cwV 1 hts gX8_wholeValue_X8_name rfl rfl rfl hdX8_name ⟨Nat.le_of_ble_eq_true rfl, Nat.le_of_ble_eq_true rfl⟩) (hP.sub [0, 1] rfl) hK rfl rfl rfl hl.1 rfl (Nat.le_of_ble_eq_true rfl) dX8_wholeValue_90 ⟨Nat.zero_le _, Nat.zero_le _⟩ ?_
        obtain ⟨r93, e93, hm⟩ := bs hm
        try dsimp only at hm
        refine ro_callVe ⟨hx, hb, hml, hown, hts⟩ (kX8_roadsTo l dC dI cA a_t a_t_state a_t_kept a_t_stack a_t_text v_t_thrown v_t_saved v_t_textLength v_t_place v_t_sign v_t_readLetters v_t_readLength v_t_readNumber f_t_state r90 r93 e93) (cwV 1 hts gX8_wholeValue_X8_roadsTo rfl rfl rfl hdX8_roadsTo ⟨Nat.le_of_ble_eq_true rfl, Nat.le_of_ble_eq_true rfl⟩) (hP.sub [0, 1] rfl) hK rfl rfl rfl hl.1 rfl (Nat.le_of_ble_eq_true rfl) dX8_wholeValue_93 ⟨Nat.zero_le _, Nat.zero_le _⟩ ?_
        refine lv_goto (tgt := 101) hx hb dX8_wholeValue_96 (by decide) ?_
        refine lv_istore (lv' := [(4, .int r93), (0, .ref a_t), (1, .int x1_60), (2, .int x2_60), (3, .int x3_60), (5, .int x5_60)]) hx hb dX8_wholeValue_101 hl (by decide) rfl (fun ls hl => ?_)
        refine lv_iinc (v := (x5_60 + 1)) (lv' := [(5, .int (x5_60 + 1)), (4, .int r93), (0, .ref a_t), (1, .int x1_60), (2, .int x2_60), (3, .int x3_60)]) hx hb dX8_wholeValue_103 hl (k := 5) rfl rfl (by decide) rfl (fun ls hl => ?_)
        refine lv_goto (tgt := 60) hx hb dX8_wholeValue_106 (by decide) ?_
        exact ih _ _ hm _ (lv_sub hl [2, 3, 4, 5, 1, 0] rfl)
set_option maxHeartbeats 4000000 in
set_option maxRecDepth 100000 in
theorem kX8_wholeValue (l : Launch) (dC : Nat → ClassId) (dI : Nat → Nat → Nat) (cA : ClassId) (a_t a_t_state a_t_kept a_t_stack a_t_text : Nat) (v_t_thrown v_t_saved v_t_textLength v_t_place v_t_sign v_t_readLetters v_t_readLength v_t_readNumber : Int32) (f_t_state : Nat → Int32) (p1 r : Int32) (hm : (mX8_wholeValue v_t_textLength f_t_state p1) = some r) : Met l yX8_wholeValue wsX8_wholeValue rmX8_wholeValue (rpc (dC, dI) [(cA, .int)] (wX8_wholeValue cA a_t a_t_state a_t_kept a_t_stack a_t_text v_t_thrown v_t_saved v_t_textLength v_t_place v_t_sign v_t_readLetters v_t_readLength v_t_readNumber f_t_state) [.ref a_t, .int p1]) (vp_Si (fun x => x = r)) 0 0 (fun _ => False) := by
  unfold mX8_wholeValue at hm
  refine ro_ofW (cc := cX8_wholeValue) (maxL := 6) (ret := (some .int)) (own := RX8) (by decide) rfl rfl (Nat.le_of_ble_eq_true rfl) ?_
  intro p e s m args below meth c hx hb hr hts hown hlocks hml hP hK ls hl
  have hl : lv_has ls 6 [(0, .ref a_t), (1, .int p1)] := hl
  have hP : va_P (dC, dI) vwCl [(a_t, .inr (7, [.int v_t_thrown, .ref a_t_state, .ref a_t_kept, .ref a_t_stack, .int v_t_saved, .ref a_t_text, .int v_t_textLength, .int v_t_place, .int v_t_sign, .int v_t_readLetters, .int v_t_readLength, .int v_t_readNumber])), (a_t_state, .inl (cA, 255, .inl f_t_state))] s.heap := hP
  refine lv_iconst (v := 0) hx hb dX8_wholeValue_0 (by decide) ?_
  refine lv_istore_n (lv' := [(2, .int 0), (0, .ref a_t), (1, .int p1)]) hx hb dX8_wholeValue_1 rfl hl (by decide) rfl (fun ls hl => ?_)
  refine lv_iconst (v := 0) hx hb dX8_wholeValue_2 (by decide) ?_
  refine lv_istore_n (lv' := [(3, .int 0), (2, .int 0), (0, .ref a_t), (1, .int p1)]) hx hb dX8_wholeValue_3 rfl hl (by decide) rfl (fun ls hl => ?_)
  refine lv_iconst (v := 1) hx hb dX8_wholeValue_4 (by decide) ?_
  refine lv_istore (lv' := [(4, .int 1), (3, .int 0), (2, .int 0), (0, .ref a_t), (1, .int p1)]) hx hb dX8_wholeValue_5 hl (by decide) rfl (fun ls hl => ?_)
  obtain ⟨⟨y2_7, y3_7, y4_7⟩, e7, hm⟩ := bs hm
  try dsimp only at hm
  refine wX8_wholeValue_L7 dC dI cA a_t a_t_state a_t_kept a_t_stack a_t_text v_t_thrown v_t_saved v_t_textLength v_t_place v_t_sign v_t_readLetters v_t_readLength v_t_readNumber f_t_state p1 p1 y2_7 y3_7 y4_7 hx hb hml hown hts hK (hP.sub [0, 1] rfl) ?_ FU _ _ _ e7 _ (lv_sub hl [3, 4, 2, 1, 0] rfl)
  · intro ls hl
    refine lv_iconst (v := 0) hx hb dX8_wholeValue_54 (by decide) ?_
    refine lv_istore (lv' := [(4, .int 0), (0, .ref a_t), (1, .int p1), (2, .int y2_7), (3, .int y3_7)]) hx hb dX8_wholeValue_55 hl (by decide) rfl (fun ls hl => ?_)
    refine lv_iconst (v := 0) hx hb dX8_wholeValue_57 (by decide) ?_
    refine lv_istore (lv' := [(5, .int 0), (4, .int 0), (0, .ref a_t), (1, .int p1), (2, .int y2_7), (3, .int y3_7)]) hx hb dX8_wholeValue_58 hl (by decide) rfl (fun ls hl => ?_)
    obtain ⟨⟨y4_60, y5_60⟩, e60, hm⟩ := bs hm
    try dsimp only at hm
    refine wX8_wholeValue_L60 dC dI cA a_t a_t_state a_t_kept a_t_stack a_t_text v_t_thrown v_t_saved v_t_textLength v_t_place v_t_sign v_t_readLetters v_t_readLength v_t_readNumber f_t_state p1 p1 y2_7 y3_7 y4_60 y5_60 hx hb hml hown hts hK (hP.sub [0, 1] rfl) ?_ FU _ _ e60 _ (lv_sub hl [2, 3, 4, 5, 1, 0] rfl)
    · intro ls hl
      refine lv_iload_n hx hb dX8_wholeValue_109 rfl (lv_at hl 1 rfl) ?_
      by_cases c110_0 : p1 = 0
      · rw [if_pos c110_0] at hm
        refine lv_tableIn (off := 58) (tgt := 168) hx hb dX8_wholeValue_110 (by rw [c110_0]; decide) (by rw [c110_0]; decide) (by rw [c110_0]; rfl) (by decide) ?_
        refine lv_aload_n hx hb dX8_wholeValue_168 rfl (lv_at hl 0 rfl) ?_
        refine va_get (D := (dC, dI)) (ci := 7) (C := RX8) (T := TX8) (N := 12) hx hb hts iX8_wholeValue_X8 hown hK hP 0 rfl rfl 1 (by decide) (hts _ (List.mem_of_getElem? (i := 1) rfl)) (fun _ h9 => h9) rfl dX8_wholeValue_169 ?_
        refine lv_iconst (v := 1) hx hb dX8_wholeValue_172 (by decide) ?_
        refine xa_ldK hx hb hK hP 1 0 rfl rfl 1 rfl (by decide) (by decide) dX8_wholeValue_173 ?_
        cases hm
        exact ro_iret hx hb hr rfl rfl dX8_wholeValue_174 hlocks
      rw [if_neg c110_0] at hm
      by_cases c110_1 : p1 = 1
      · rw [if_pos c110_1] at hm
        refine lv_tableIn (off := 65) (tgt := 175) hx hb dX8_wholeValue_110 (by rw [c110_1]; decide) (by rw [c110_1]; decide) (by rw [c110_1]; rfl) (by decide) ?_
        refine lv_aload_n hx hb dX8_wholeValue_175 rfl (lv_at hl 0 rfl) ?_
        refine va_get (D := (dC, dI)) (ci := 7) (C := RX8) (T := TX8) (N := 12) hx hb hts iX8_wholeValue_X8 hown hK hP 0 rfl rfl 1 (by decide) (hts _ (List.mem_of_getElem? (i := 1) rfl)) (fun _ h9 => h9) rfl dX8_wholeValue_176 ?_
        refine lv_iconst (v := 2) hx hb dX8_wholeValue_179 (by decide) ?_
        refine xa_ldK hx hb hK hP 1 0 rfl rfl 2 rfl (by decide) (by decide) dX8_wholeValue_180 ?_
        cases hm
        exact ro_iret hx hb hr rfl rfl dX8_wholeValue_181 hlocks
      rw [if_neg c110_1] at hm
      by_cases c110_2 : p1 = 2
      · rw [if_pos c110_2] at hm
        refine lv_tableIn (off := 72) (tgt := 182) hx hb dX8_wholeValue_110 (by rw [c110_2]; decide) (by rw [c110_2]; decide) (by rw [c110_2]; rfl) (by decide) ?_
        refine lv_aload_n hx hb dX8_wholeValue_182 rfl (lv_at hl 0 rfl) ?_
        refine va_get (D := (dC, dI)) (ci := 7) (C := RX8) (T := TX8) (N := 12) hx hb hts iX8_wholeValue_X8 hown hK hP 0 rfl rfl 1 (by decide) (hts _ (List.mem_of_getElem? (i := 1) rfl)) (fun _ h9 => h9) rfl dX8_wholeValue_183 ?_
        refine lv_iconst (v := 0) hx hb dX8_wholeValue_186 (by decide) ?_
        refine xa_ldK hx hb hK hP 1 0 rfl rfl 0 rfl (by decide) (by decide) dX8_wholeValue_187 ?_
        cases hm
        exact ro_iret hx hb hr rfl rfl dX8_wholeValue_188 hlocks
      rw [if_neg c110_2] at hm
      by_cases c110_3 : p1 = 3
      · rw [if_pos c110_3] at hm
        refine lv_tableIn (off := 79) (tgt := 189) hx hb dX8_wholeValue_110 (by rw [c110_3]; decide) (by rw [c110_3]; decide) (by rw [c110_3]; rfl) (by decide) ?_
        refine lv_aload_n hx hb dX8_wholeValue_189 rfl (lv_at hl 0 rfl) ?_
        obtain ⟨r190, e190, hm⟩ := bs hm
        try dsimp only at hm
        refine ro_callVe ⟨hx, hb, hml, hown, hts⟩ (kX8_costOf l dC dI cA a_t a_t_state a_t_kept a_t_stack a_t_text v_t_thrown v_t_saved v_t_textLength v_t_place v_t_sign v_t_readLetters v_t_readLength v_t_readNumber f_t_state r190 e190) (cwV 0 hts gX8_wholeValue_X8_costOf rfl rfl rfl hdX8_costOf ⟨Nat.le_of_ble_eq_true rfl, Nat.le_of_ble_eq_true rfl⟩) (hP.sub [0, 1] rfl) hK rfl rfl rfl hl.1 rfl (Nat.le_of_ble_eq_true rfl) dX8_wholeValue_190 ⟨Nat.zero_le _, Nat.zero_le _⟩ ?_
        cases hm
        exact ro_iret hx hb hr rfl rfl dX8_wholeValue_193 hlocks
      rw [if_neg c110_3] at hm
      by_cases c110_4 : p1 = 4
      · rw [if_pos c110_4] at hm
        refine lv_tableIn (off := 84) (tgt := 194) hx hb dX8_wholeValue_110 (by rw [c110_4]; decide) (by rw [c110_4]; decide) (by rw [c110_4]; rfl) (by decide) ?_
        refine lv_iload_n hx hb dX8_wholeValue_194 rfl (lv_at hl 2 rfl) ?_
        cases hm
        exact ro_iret hx hb hr rfl rfl dX8_wholeValue_195 hlocks
      rw [if_neg c110_4] at hm
      by_cases c110_5 : p1 = 5
      · rw [if_pos c110_5] at hm
        refine lv_tableIn (off := 86) (tgt := 196) hx hb dX8_wholeValue_110 (by rw [c110_5]; decide) (by rw [c110_5]; decide) (by rw [c110_5]; rfl) (by decide) ?_
        refine lv_iload_n hx hb dX8_wholeValue_196 rfl (lv_at hl 3 rfl) ?_
        cases hm
        exact ro_iret hx hb hr rfl rfl dX8_wholeValue_197 hlocks
      rw [if_neg c110_5] at hm
      by_cases c110_6 : p1 = 6
      · rw [if_pos c110_6] at hm
        refine lv_tableIn (off := 88) (tgt := 198) hx hb dX8_wholeValue_110 (by rw [c110_6]; decide) (by rw [c110_6]; decide) (by rw [c110_6]; rfl) (by decide) ?_
        refine lv_iload hx hb dX8_wholeValue_198 (lv_at hl 4 rfl) ?_
        cases hm
        exact ro_iret hx hb hr rfl rfl dX8_wholeValue_200 hlocks
      rw [if_neg c110_6] at hm
      by_cases c110_7 : p1 = 7
      · rw [if_pos c110_7] at hm
        refine lv_tableIn (off := 91) (tgt := 201) hx hb dX8_wholeValue_110 (by rw [c110_7]; decide) (by rw [c110_7]; decide) (by rw [c110_7]; rfl) (by decide) ?_
        refine lv_aload_n hx hb dX8_wholeValue_201 rfl (lv_at hl 0 rfl) ?_
        refine va_get (D := (dC, dI)) (ci := 7) (C := RX8) (T := TX8) (N := 12) hx hb hts iX8_wholeValue_X8 hown hK hP 0 rfl rfl 1 (by decide) (hts _ (List.mem_of_getElem? (i := 1) rfl)) (fun _ h9 => h9) rfl dX8_wholeValue_202 ?_
        refine lv_iconst (v := 3) hx hb dX8_wholeValue_205 (by decide) ?_
        refine xa_ldK hx hb hK hP 1 0 rfl rfl 3 rfl (by decide) (by decide) dX8_wholeValue_206 ?_
        cases hm
        exact ro_iret hx hb hr rfl rfl dX8_wholeValue_207 hlocks
      rw [if_neg c110_7] at hm
      by_cases c110_8 : p1 = 8
      · rw [if_pos c110_8] at hm
        refine lv_tableIn (off := 98) (tgt := 208) hx hb dX8_wholeValue_110 (by rw [c110_8]; decide) (by rw [c110_8]; decide) (by rw [c110_8]; rfl) (by decide) ?_
        refine lv_aload_n hx hb dX8_wholeValue_208 rfl (lv_at hl 0 rfl) ?_
        refine va_get (D := (dC, dI)) (ci := 7) (C := RX8) (T := TX8) (N := 12) hx hb hts iX8_wholeValue_X8 hown hK hP 0 rfl rfl 1 (by decide) (hts _ (List.mem_of_getElem? (i := 1) rfl)) (fun _ h9 => h9) rfl dX8_wholeValue_209 ?_
        refine lv_iconst (v := 4) hx hb dX8_wholeValue_212 (by decide) ?_
        refine xa_ldK hx hb hK hP 1 0 rfl rfl 4 rfl (by decide) (by decide) dX8_wholeValue_213 ?_
        cases hm
        exact ro_iret hx hb hr rfl rfl dX8_wholeValue_214 hlocks
      rw [if_neg c110_8] at hm
      by_cases c110_9 : p1 = 9
      · rw [if_pos c110_9] at hm
        refine lv_tableIn (off := 105) (tgt := 215) hx hb dX8_wholeValue_110 (by rw [c110_9]; decide) (by rw [c110_9]; decide) (by rw [c110_9]; rfl) (by decide) ?_
        refine lv_aload_n hx hb dX8_wholeValue_215 rfl (lv_at hl 0 rfl) ?_
        refine va_get (D := (dC, dI)) (ci := 7) (C := RX8) (T := TX8) (N := 12) hx hb hts iX8_wholeValue_X8 hown hK hP 0 rfl rfl 1 (by decide) (hts _ (List.mem_of_getElem? (i := 1) rfl)) (fun _ h9 => h9) rfl dX8_wholeValue_216 ?_
        refine lv_iconst (v := 5) hx hb dX8_wholeValue_219 (by decide) ?_
        refine xa_ldK hx hb hK hP 1 0 rfl rfl 5 rfl (by decide) (by decide) dX8_wholeValue_220 ?_
        cases hm
        exact ro_iret hx hb hr rfl rfl dX8_wholeValue_221 hlocks
      rw [if_neg c110_9] at hm
      by_cases c110_10 : p1 = 10
      · rw [if_pos c110_10] at hm
        refine lv_tableIn (off := 112) (tgt := 222) hx hb dX8_wholeValue_110 (by rw [c110_10]; decide) (by rw [c110_10]; decide) (by rw [c110_10]; rfl) (by decide) ?_
        refine lv_aload_n hx hb dX8_wholeValue_222 rfl (lv_at hl 0 rfl) ?_
        refine va_get (D := (dC, dI)) (ci := 7) (C := RX8) (T := TX8) (N := 12) hx hb hts iX8_wholeValue_X8 hown hK hP 0 rfl rfl 1 (by decide) (hts _ (List.mem_of_getElem? (i := 1) rfl)) (fun _ h9 => h9) rfl dX8_wholeValue_223 ?_
        refine lv_bipush (v := 6) hx hb dX8_wholeValue_226 (by decide) ?_
        refine xa_ldK hx hb hK hP 1 0 rfl rfl 6 rfl (by decide) (by decide) dX8_wholeValue_228 ?_
        cases hm
        exact ro_iret hx hb hr rfl rfl dX8_wholeValue_229 hlocks
      rw [if_neg c110_10] at hm
      have n110_0 := lv_neT (a := 0) c110_0 (by decide)
      have n110_1 := lv_neT (a := 1) c110_1 (by decide)
      have n110_2 := lv_neT (a := 2) c110_2 (by decide)
      have n110_3 := lv_neT (a := 3) c110_3 (by decide)
      have n110_4 := lv_neT (a := 4) c110_4 (by decide)
      have n110_5 := lv_neT (a := 5) c110_5 (by decide)
      have n110_6 := lv_neT (a := 6) c110_6 (by decide)
      have n110_7 := lv_neT (a := 7) c110_7 (by decide)
      have n110_8 := lv_neT (a := 8) c110_8 (by decide)
      have n110_9 := lv_neT (a := 9) c110_9 (by decide)
      have n110_10 := lv_neT (a := 10) c110_10 (by decide)
      refine lv_tableOut (tgt := 230) hx hb dX8_wholeValue_110 (by omega) (by decide) ?_
      refine lv_aload_n hx hb dX8_wholeValue_230 rfl (lv_at hl 0 rfl) ?_
      refine va_get (D := (dC, dI)) (ci := 7) (C := RX8) (T := TX8) (N := 12) hx hb hts iX8_wholeValue_X8 hown hK hP 0 rfl rfl 6 (by decide) (hts _ (List.mem_of_getElem? (i := 2) rfl)) (fun _ h9 => h9) rfl dX8_wholeValue_231 ?_
      cases hm
      exact ro_iret hx hb hr rfl rfl dX8_wholeValue_234 hlocks
def mX8_whole (v_t_textLength : Int32) (f_t_state : Nat → Int32) (p1 : Int32) : Option (Int32 × Int32) :=
  (if (if (mX8_within p1 0 11) = 0 then (1 : Int32) else 0) ≤ 0 then
    ((mX8_wholeValue v_t_textLength f_t_state p1).bind fun r32 =>
    some (r32, (if (mX8_within p1 0 11) = 0 then (1 : Int32) else 0)))
  else
    some (0, (if (mX8_within p1 0 11) = 0 then (1 : Int32) else 0)))
abbrev rmX8_whole : Room := { frames := 7, cells := 0, slots := 0, locals := 152 }
abbrev wX8_whole (cA : ClassId) (a_t a_t_state a_t_kept a_t_stack a_t_text : Nat) (v_t_thrown v_t_saved v_t_textLength v_t_place v_t_sign v_t_readLetters v_t_readLength v_t_readNumber : Int32) (f_t_state : Nat → Int32) : va_W := [(a_t, .inr (7, [.int v_t_thrown, .ref a_t_state, .ref a_t_kept, .ref a_t_stack, .int v_t_saved, .ref a_t_text, .int v_t_textLength, .int v_t_place, .int v_t_sign, .int v_t_readLetters, .int v_t_readLength, .int v_t_readNumber])), (a_t_state, .inl (cA, 255, .inl f_t_state))]
theorem iX8_whole_X8 : ∀ w ∈ wsX80, w ∈ wsX8_whole := (fun _ h => List.mem_cons_of_mem _ (List.mem_append_right _ h))
theorem hdX8_whole : yX8_whole.cls = RX8 ∧ yX8_whole.cls ≠ "java/lang/invoke/MethodHandle" ∧ yX8_whole.cls ≠ "java/lang/invoke/VarHandle" ∧ (parseMethodDescriptor yX8_whole.desc).map (fun d => d.parameters.length) = some 1 := by decide +kernel
set_option maxHeartbeats 4000000 in
set_option maxRecDepth 100000 in
theorem kX8_whole (l : Launch) (dC : Nat → ClassId) (dI : Nat → Nat → Nat) (cA : ClassId) (a_t a_t_state a_t_kept a_t_stack a_t_text : Nat) (v_t_thrown v_t_saved v_t_textLength v_t_place v_t_sign v_t_readLetters v_t_readLength v_t_readNumber : Int32) (f_t_state : Nat → Int32) (p1 : Int32) (sz : Nat) (r o_v_t_thrown : Int32) (hm : (mX8_whole v_t_textLength f_t_state p1) = some (r, o_v_t_thrown)) : Met l yX8_whole wsX8_whole rmX8_whole (mpc (dC, dI) [(cA, .int)] (wX8_whole cA a_t a_t_state a_t_kept a_t_stack a_t_text v_t_thrown v_t_saved v_t_textLength v_t_place v_t_sign v_t_readLetters v_t_readLength v_t_readNumber f_t_state) [.ref a_t, .int p1] sz) (mqi (dC, dI) [(cA, .int)] (va_A (wX8_whole cA a_t a_t_state a_t_kept a_t_stack a_t_text v_t_thrown v_t_saved v_t_textLength v_t_place v_t_sign v_t_readLetters v_t_readLength v_t_readNumber f_t_state) sz) (wX8_whole cA a_t a_t_state a_t_kept a_t_stack a_t_text o_v_t_thrown v_t_saved v_t_textLength v_t_place v_t_sign v_t_readLetters v_t_readLength v_t_readNumber f_t_state) (fun x => x = r)) 0 0 (va_A (wX8_whole cA a_t a_t_state a_t_kept a_t_stack a_t_text v_t_thrown v_t_saved v_t_textLength v_t_place v_t_sign v_t_readLetters v_t_readLength v_t_readNumber f_t_state) sz) := by
  unfold mX8_whole at hm
  refine mu_ofW (Qc := fun A => mqi (dC, dI) [(cA, .int)] A (wX8_whole cA a_t a_t_state a_t_kept a_t_stack a_t_text o_v_t_thrown v_t_saved v_t_textLength v_t_place v_t_sign v_t_readLetters v_t_readLength v_t_readNumber f_t_state) (fun x => x = r)) (cc := cX8_whole) (maxL := 2) (ret := (some .int)) (own := RX8) (by decide) rfl rfl (Nat.le_of_ble_eq_true rfl) ?_
  intro p e s m args below meth c hx hb hr hts hown hlocks hml hin A hA hP hD hS hK ls hl
  have hl : lv_has ls 2 [(0, .ref a_t), (1, .int p1)] := hl
  have hP : va_P (dC, dI) vwCl [(a_t, .inr (7, [.int v_t_thrown, .ref a_t_state, .ref a_t_kept, .ref a_t_stack, .int v_t_saved, .ref a_t_text, .int v_t_textLength, .int v_t_place, .int v_t_sign, .int v_t_readLetters, .int v_t_readLength, .int v_t_readNumber])), (a_t_state, .inl (cA, 255, .inl f_t_state))] s.heap := hP
  have hD : va_D A [(a_t, .inr (7, [.int v_t_thrown, .ref a_t_state, .ref a_t_kept, .ref a_t_stack, .int v_t_saved, .ref a_t_text, .int v_t_textLength, .int v_t_place, .int v_t_sign, .int v_t_readLetters, .int v_t_readLength, .int v_t_readNumber])), (a_t_state, .inl (cA, 255, .inl f_t_state))] := hD
  refine lv_aload_n hx hb dX8_whole_0 rfl (lv_at hl 0 rfl) ?_
  refine lv_iload_n hx hb dX8_whole_1 rfl (lv_at hl 1 rfl) ?_
  refine lv_iconst (v := 0) hx hb dX8_whole_2 (by decide) ?_
  refine lv_bipush (v := 11) hx hb dX8_whole_3 (by decide) ?_
  refine sp_callSz ⟨hx, hb, hml, hown, hts⟩ (kX8_within l p1 0 11) (va_cwS 3 hts gX8_whole_X8_within rfl rfl rfl hdX8_within.2 ⟨Nat.le_of_ble_eq_true rfl, Nat.le_of_ble_eq_true rfl⟩) rfl hl.1 rfl (Nat.le_of_ble_eq_true rfl) dX8_whole_5 ⟨Nat.zero_le _, Nat.zero_le _⟩ (fun hb5 => ?_)
  refine lv_if_eq (tgt := 15) hx hb dX8_whole_8 (by decide) (fun c8 => ?_) (fun c8 => ?_)
  · try simp only [if_pos c8] at hm
    refine lv_iconst (v := 1) hx hb dX8_whole_15 (by decide) ?_
    refine va_put (D := (dC, dI)) (ci := 7) (C := RX8) (T := TX8) (N := 12) (ty := .int) hx hb hts iX8_whole_X8 tyX8 tyX8_ok nmX8 hown hK hP hD hS 0 rfl rfl 0 (by decide) (hts _ (List.mem_of_getElem? (i := 1) rfl)) (fun _ h9 => h9) rfl (by decide +kernel) rfl rfl (Nat.le_of_ble_eq_true rfl) dX8_whole_16 (fun H locs hP hD hS => ?_)
    have hP : va_P (dC, dI) vwCl [(a_t, .inr (7, [.int 1, .ref a_t_state, .ref a_t_kept, .ref a_t_stack, .int v_t_saved, .ref a_t_text, .int v_t_textLength, .int v_t_place, .int v_t_sign, .int v_t_readLetters, .int v_t_readLength, .int v_t_readNumber])), (a_t_state, .inl (cA, 255, .inl f_t_state))] H := hP
    have hD : va_D A [(a_t, .inr (7, [.int 1, .ref a_t_state, .ref a_t_kept, .ref a_t_stack, .int v_t_saved, .ref a_t_text, .int v_t_textLength, .int v_t_place, .int v_t_sign, .int v_t_readLetters, .int v_t_readLength, .int v_t_readNumber])), (a_t_state, .inl (cA, 255, .inl f_t_state))] := hD
    refine lv_aload_n hx hb dX8_whole_19 rfl (lv_at hl 0 rfl) ?_
    refine va_get (D := (dC, dI)) (ci := 7) (C := RX8) (T := TX8) (N := 12) hx hb hts iX8_whole_X8 hown hK hP 0 rfl rfl 0 (by decide) (hts _ (List.mem_of_getElem? (i := 1) rfl)) (fun _ h9 => h9) rfl dX8_whole_20 ?_
    refine lv_if_le (tgt := 30) hx hb dX8_whole_23 (by decide) (fun c23 => absurd c23 (by decide)) (fun c23 => ?_)
    try rw [if_neg (show ¬ ((1 : Int32) ≤ 0) by decide)] at hm
    refine lv_iconst (v := 0) hx hb dX8_whole_26 (by decide) ?_
    refine lv_goto (tgt := 35) hx hb dX8_whole_27 (by decide) ?_
    cases hm
    exact mu_iret hx hb hr rfl rfl hP hD hS hK [0, 1] rfl (by decide) dX8_whole_35 hlocks
  · try simp only [if_neg c8] at hm
    refine lv_iconst (v := 0) hx hb dX8_whole_11 (by decide) ?_
    refine lv_goto (tgt := 16) hx hb dX8_whole_12 (by decide) ?_
    refine va_put (D := (dC, dI)) (ci := 7) (C := RX8) (T := TX8) (N := 12) (ty := .int) hx hb hts iX8_whole_X8 tyX8 tyX8_ok nmX8 hown hK hP hD hS 0 rfl rfl 0 (by decide) (hts _ (List.mem_of_getElem? (i := 1) rfl)) (fun _ h9 => h9) rfl (by decide +kernel) rfl rfl (Nat.le_of_ble_eq_true rfl) dX8_whole_16 (fun H locs hP hD hS => ?_)
    have hP : va_P (dC, dI) vwCl [(a_t, .inr (7, [.int 0, .ref a_t_state, .ref a_t_kept, .ref a_t_stack, .int v_t_saved, .ref a_t_text, .int v_t_textLength, .int v_t_place, .int v_t_sign, .int v_t_readLetters, .int v_t_readLength, .int v_t_readNumber])), (a_t_state, .inl (cA, 255, .inl f_t_state))] H := hP
    have hD : va_D A [(a_t, .inr (7, [.int 0, .ref a_t_state, .ref a_t_kept, .ref a_t_stack, .int v_t_saved, .ref a_t_text, .int v_t_textLength, .int v_t_place, .int v_t_sign, .int v_t_readLetters, .int v_t_readLength, .int v_t_readNumber])), (a_t_state, .inl (cA, 255, .inl f_t_state))] := hD
    refine lv_aload_n hx hb dX8_whole_19 rfl (lv_at hl 0 rfl) ?_
    refine va_get (D := (dC, dI)) (ci := 7) (C := RX8) (T := TX8) (N := 12) hx hb hts iX8_whole_X8 hown hK hP 0 rfl rfl 0 (by decide) (hts _ (List.mem_of_getElem? (i := 1) rfl)) (fun _ h9 => h9) rfl dX8_whole_20 ?_
    refine lv_if_le (tgt := 30) hx hb dX8_whole_23 (by decide) (fun c23 => ?_) (fun c23 => absurd c23 (by decide))
    try rw [if_pos (show (0 : Int32) ≤ 0 by decide)] at hm
    refine lv_aload_n hx hb dX8_whole_30 rfl (lv_at hl 0 rfl) ?_
    refine lv_iload_n hx hb dX8_whole_31 rfl (lv_at hl 1 rfl) ?_
    obtain ⟨r32, e32, hm⟩ := bs hm
    try dsimp only at hm
    refine ro_callVe ⟨hx, hb, hml, hown, hts⟩ (kX8_wholeValue l dC dI cA a_t a_t_state a_t_kept a_t_stack a_t_text 0 v_t_saved v_t_textLength v_t_place v_t_sign v_t_readLetters v_t_readLength v_t_readNumber f_t_state p1 r32 e32) (cwV 1 hts gX8_whole_X8_wholeValue rfl rfl rfl hdX8_wholeValue ⟨Nat.le_of_ble_eq_true rfl, Nat.le_of_ble_eq_true rfl⟩) (hP.sub [0, 1] rfl) hK rfl rfl rfl hl.1 rfl (Nat.le_of_ble_eq_true rfl) dX8_whole_32 ⟨Nat.zero_le _, Nat.zero_le _⟩ ?_
    cases hm
    exact mu_iret hx hb hr rfl rfl hP hD hS hK [0, 1] rfl (by decide) dX8_whole_35 hlocks
def mX8_reason (f_t_state : Nat → Int32) (p1 : Int32) (p2 : Int32) : Option (Int32 × Int32) :=
  (if (if (mX8_isPrefix p1 p2 0) = 0 then (1 : Int32) else 0) ≤ 0 then
    ((mX8_findHouse f_t_state (mX8_code p1 p2)).bind fun r33 =>
    (if r33 = (-1) then
      some ((-1), (if (mX8_isPrefix p1 p2 0) = 0 then (1 : Int32) else 0))
    else
      ((mX8_whyNoMove f_t_state r33).bind fun r48 =>
      some (r48, (if (mX8_isPrefix p1 p2 0) = 0 then (1 : Int32) else 0)))))
  else
    some (0, (if (mX8_isPrefix p1 p2 0) = 0 then (1 : Int32) else 0)))
abbrev rmX8_reason : Room := { frames := 7, cells := 0, slots := 0, locals := 148 }
abbrev wX8_reason (cA : ClassId) (a_t a_t_state a_t_kept a_t_stack a_t_text : Nat) (v_t_thrown v_t_saved v_t_textLength v_t_place v_t_sign v_t_readLetters v_t_readLength v_t_readNumber : Int32) (f_t_state : Nat → Int32) : va_W := [(a_t, .inr (7, [.int v_t_thrown, .ref a_t_state, .ref a_t_kept, .ref a_t_stack, .int v_t_saved, .ref a_t_text, .int v_t_textLength, .int v_t_place, .int v_t_sign, .int v_t_readLetters, .int v_t_readLength, .int v_t_readNumber])), (a_t_state, .inl (cA, 255, .inl f_t_state))]
theorem iX8_reason_X8 : ∀ w ∈ wsX80, w ∈ wsX8_reason := (fun _ h => List.mem_cons_of_mem _ (List.mem_append_right _ h))
theorem hdX8_reason : yX8_reason.cls = RX8 ∧ yX8_reason.cls ≠ "java/lang/invoke/MethodHandle" ∧ yX8_reason.cls ≠ "java/lang/invoke/VarHandle" ∧ (parseMethodDescriptor yX8_reason.desc).map (fun d => d.parameters.length) = some 2 := by decide +kernel
set_option maxHeartbeats 4000000 in
set_option maxRecDepth 100000 in
theorem kX8_reason (l : Launch) (dC : Nat → ClassId) (dI : Nat → Nat → Nat) (cA : ClassId) (a_t a_t_state a_t_kept a_t_stack a_t_text : Nat) (v_t_thrown v_t_saved v_t_textLength v_t_place v_t_sign v_t_readLetters v_t_readLength v_t_readNumber : Int32) (f_t_state : Nat → Int32) (p1 p2 : Int32) (sz : Nat) (r o_v_t_thrown : Int32) (hm : (mX8_reason f_t_state p1 p2) = some (r, o_v_t_thrown)) : Met l yX8_reason wsX8_reason rmX8_reason (mpc (dC, dI) [(cA, .int)] (wX8_reason cA a_t a_t_state a_t_kept a_t_stack a_t_text v_t_thrown v_t_saved v_t_textLength v_t_place v_t_sign v_t_readLetters v_t_readLength v_t_readNumber f_t_state) [.ref a_t, .int p1, .int p2] sz) (mqi (dC, dI) [(cA, .int)] (va_A (wX8_reason cA a_t a_t_state a_t_kept a_t_stack a_t_text v_t_thrown v_t_saved v_t_textLength v_t_place v_t_sign v_t_readLetters v_t_readLength v_t_readNumber f_t_state) sz) (wX8_reason cA a_t a_t_state a_t_kept a_t_stack a_t_text o_v_t_thrown v_t_saved v_t_textLength v_t_place v_t_sign v_t_readLetters v_t_readLength v_t_readNumber f_t_state) (fun x => x = r)) 0 0 (va_A (wX8_reason cA a_t a_t_state a_t_kept a_t_stack a_t_text v_t_thrown v_t_saved v_t_textLength v_t_place v_t_sign v_t_readLetters v_t_readLength v_t_readNumber f_t_state) sz) := by
  unfold mX8_reason at hm
  refine mu_ofW (Qc := fun A => mqi (dC, dI) [(cA, .int)] A (wX8_reason cA a_t a_t_state a_t_kept a_t_stack a_t_text o_v_t_thrown v_t_saved v_t_textLength v_t_place v_t_sign v_t_readLetters v_t_readLength v_t_readNumber f_t_state) (fun x => x = r)) (cc := cX8_reason) (maxL := 4) (ret := (some .int)) (own := RX8) (by decide) rfl rfl (Nat.le_of_ble_eq_true rfl) ?_
  intro p e s m args below meth c hx hb hr hts hown hlocks hml hin A hA hP hD hS hK ls hl
  have hl : lv_has ls 4 [(0, .ref a_t), (1, .int p1), (2, .int p2)] := hl
  have hP : va_P (dC, dI) vwCl [(a_t, .inr (7, [.int v_t_thrown, .ref a_t_state, .ref a_t_kept, .ref a_t_stack, .int v_t_saved, .ref a_t_text, .int v_t_textLength, .int v_t_place, .int v_t_sign, .int v_t_readLetters, .int v_t_readLength, .int v_t_readNumber])), (a_t_state, .inl (cA, 255, .inl f_t_state))] s.heap := hP
  have hD : va_D A [(a_t, .inr (7, [.int v_t_thrown, .ref a_t_state, .ref a_t_kept, .ref a_t_stack, .int v_t_saved, .ref a_t_text, .int v_t_textLength, .int v_t_place, .int v_t_sign, .int v_t_readLetters, .int v_t_readLength, .int v_t_readNumber])), (a_t_state, .inl (cA, 255, .inl f_t_state))] := hD
  refine lv_aload_n hx hb dX8_reason_0 rfl (lv_at hl 0 rfl) ?_
  refine lv_iload_n hx hb dX8_reason_1 rfl (lv_at hl 1 rfl) ?_
  refine lv_iload_n hx hb dX8_reason_2 rfl (lv_at hl 2 rfl) ?_
  refine lv_iconst (v := 0) hx hb dX8_reason_3 (by decide) ?_
  refine sp_callSz ⟨hx, hb, hml, hown, hts⟩ (kX8_isPrefix l p1 p2 0) (va_cwS 3 hts gX8_reason_X8_isPrefix rfl rfl rfl hdX8_isPrefix.2 ⟨Nat.le_of_ble_eq_true rfl, Nat.le_of_ble_eq_true rfl⟩) rfl hl.1 rfl (Nat.le_of_ble_eq_true rfl) dX8_reason_4 ⟨Nat.zero_le _, Nat.zero_le _⟩ (fun hb4 => ?_)
  refine lv_if_eq (tgt := 14) hx hb dX8_reason_7 (by decide) (fun c7 => ?_) (fun c7 => ?_)
  · try simp only [if_pos c7] at hm
    refine lv_iconst (v := 1) hx hb dX8_reason_14 (by decide) ?_
    refine va_put (D := (dC, dI)) (ci := 7) (C := RX8) (T := TX8) (N := 12) (ty := .int) hx hb hts iX8_reason_X8 tyX8 tyX8_ok nmX8 hown hK hP hD hS 0 rfl rfl 0 (by decide) (hts _ (List.mem_of_getElem? (i := 1) rfl)) (fun _ h9 => h9) rfl (by decide +kernel) rfl rfl (Nat.le_of_ble_eq_true rfl) dX8_reason_15 (fun H locs hP hD hS => ?_)
    have hP : va_P (dC, dI) vwCl [(a_t, .inr (7, [.int 1, .ref a_t_state, .ref a_t_kept, .ref a_t_stack, .int v_t_saved, .ref a_t_text, .int v_t_textLength, .int v_t_place, .int v_t_sign, .int v_t_readLetters, .int v_t_readLength, .int v_t_readNumber])), (a_t_state, .inl (cA, 255, .inl f_t_state))] H := hP
    have hD : va_D A [(a_t, .inr (7, [.int 1, .ref a_t_state, .ref a_t_kept, .ref a_t_stack, .int v_t_saved, .ref a_t_text, .int v_t_textLength, .int v_t_place, .int v_t_sign, .int v_t_readLetters, .int v_t_readLength, .int v_t_readNumber])), (a_t_state, .inl (cA, 255, .inl f_t_state))] := hD
    refine lv_aload_n hx hb dX8_reason_18 rfl (lv_at hl 0 rfl) ?_
    refine va_get (D := (dC, dI)) (ci := 7) (C := RX8) (T := TX8) (N := 12) hx hb hts iX8_reason_X8 hown hK hP 0 rfl rfl 0 (by decide) (hts _ (List.mem_of_getElem? (i := 1) rfl)) (fun _ h9 => h9) rfl dX8_reason_19 ?_
    refine lv_if_le (tgt := 27) hx hb dX8_reason_22 (by decide) (fun c22 => absurd c22 (by decide)) (fun c22 => ?_)
    try rw [if_neg (show ¬ ((1 : Int32) ≤ 0) by decide)] at hm
    refine lv_iconst (v := 0) hx hb dX8_reason_25 (by decide) ?_
    cases hm
    exact mu_iret hx hb hr rfl rfl hP hD hS hK [0, 1] rfl (by decide) dX8_reason_26 hlocks
  · try simp only [if_neg c7] at hm
    refine lv_iconst (v := 0) hx hb dX8_reason_10 (by decide) ?_
    refine lv_goto (tgt := 15) hx hb dX8_reason_11 (by decide) ?_
    refine va_put (D := (dC, dI)) (ci := 7) (C := RX8) (T := TX8) (N := 12) (ty := .int) hx hb hts iX8_reason_X8 tyX8 tyX8_ok nmX8 hown hK hP hD hS 0 rfl rfl 0 (by decide) (hts _ (List.mem_of_getElem? (i := 1) rfl)) (fun _ h9 => h9) rfl (by decide +kernel) rfl rfl (Nat.le_of_ble_eq_true rfl) dX8_reason_15 (fun H locs hP hD hS => ?_)
    have hP : va_P (dC, dI) vwCl [(a_t, .inr (7, [.int 0, .ref a_t_state, .ref a_t_kept, .ref a_t_stack, .int v_t_saved, .ref a_t_text, .int v_t_textLength, .int v_t_place, .int v_t_sign, .int v_t_readLetters, .int v_t_readLength, .int v_t_readNumber])), (a_t_state, .inl (cA, 255, .inl f_t_state))] H := hP
    have hD : va_D A [(a_t, .inr (7, [.int 0, .ref a_t_state, .ref a_t_kept, .ref a_t_stack, .int v_t_saved, .ref a_t_text, .int v_t_textLength, .int v_t_place, .int v_t_sign, .int v_t_readLetters, .int v_t_readLength, .int v_t_readNumber])), (a_t_state, .inl (cA, 255, .inl f_t_state))] := hD
    refine lv_aload_n hx hb dX8_reason_18 rfl (lv_at hl 0 rfl) ?_
    refine va_get (D := (dC, dI)) (ci := 7) (C := RX8) (T := TX8) (N := 12) hx hb hts iX8_reason_X8 hown hK hP 0 rfl rfl 0 (by decide) (hts _ (List.mem_of_getElem? (i := 1) rfl)) (fun _ h9 => h9) rfl dX8_reason_19 ?_
    refine lv_if_le (tgt := 27) hx hb dX8_reason_22 (by decide) (fun c22 => ?_) (fun c22 => absurd c22 (by decide))
    try rw [if_pos (show (0 : Int32) ≤ 0 by decide)] at hm
    refine lv_aload_n hx hb dX8_reason_27 rfl (lv_at hl 0 rfl) ?_
    refine lv_iload_n hx hb dX8_reason_28 rfl (lv_at hl 1 rfl) ?_
    refine lv_iload_n hx hb dX8_reason_29 rfl (lv_at hl 2 rfl) ?_
    refine sp_callSe ⟨hx, hb, hml, hown, hts⟩ (kX8_code l p1 p2) (va_cwS 2 hts gX8_reason_X8_code rfl rfl rfl hdX8_code.2 ⟨Nat.le_of_ble_eq_true rfl, Nat.le_of_ble_eq_true rfl⟩) rfl hl.1 rfl (Nat.le_of_ble_eq_true rfl) dX8_reason_30 ⟨Nat.zero_le _, Nat.zero_le _⟩ ?_
    obtain ⟨r33, e33, hm⟩ := bs hm
    try dsimp only at hm
    refine ro_callVe ⟨hx, hb, hml, hown, hts⟩ (kX8_findHouse l dC dI cA a_t a_t_state a_t_kept a_t_stack a_t_text 0 v_t_saved v_t_textLength v_t_place v_t_sign v_t_readLetters v_t_readLength v_t_readNumber f_t_state (mX8_code p1 p2) r33 e33) (cwV 1 hts gX8_reason_X8_findHouse rfl rfl rfl hdX8_findHouse ⟨Nat.le_of_ble_eq_true rfl, Nat.le_of_ble_eq_true rfl⟩) (hP.sub [0, 1] rfl) hK rfl rfl rfl hl.1 rfl (Nat.le_of_ble_eq_true rfl) dX8_reason_33 ⟨Nat.zero_le _, Nat.zero_le _⟩ ?_
    refine lv_istore_n (lv' := [(3, .int r33), (0, .ref a_t), (1, .int p1), (2, .int p2)]) hx hb dX8_reason_36 rfl hl (by decide) rfl (fun ls hl => ?_)
    refine lv_iload_n hx hb dX8_reason_37 rfl (lv_at hl 0 rfl) ?_
    refine lv_iconst (v := (-1)) hx hb dX8_reason_38 (by decide) ?_
    refine lv_icmp_ne (tgt := 46) hx hb dX8_reason_39 (by decide) (fun c39 => ?_) (fun c39 => ?_)
    · rw [if_neg c39] at hm
      refine lv_aload_n hx hb dX8_reason_46 rfl (lv_at hl 1 rfl) ?_
      refine lv_iload_n hx hb dX8_reason_47 rfl (lv_at hl 0 rfl) ?_
      obtain ⟨r48, e48, hm⟩ := bs hm
      try dsimp only at hm
      refine ro_callVe ⟨hx, hb, hml, hown, hts⟩ (kX8_whyNoMove l dC dI cA a_t a_t_state a_t_kept a_t_stack a_t_text 0 v_t_saved v_t_textLength v_t_place v_t_sign v_t_readLetters v_t_readLength v_t_readNumber f_t_state r33 r48 e48) (cwV 1 hts gX8_reason_X8_whyNoMove rfl rfl rfl hdX8_whyNoMove ⟨Nat.le_of_ble_eq_true rfl, Nat.le_of_ble_eq_true rfl⟩) (hP.sub [0, 1] rfl) hK rfl rfl rfl hl.1 rfl (Nat.le_of_ble_eq_true rfl) dX8_reason_48 ⟨Nat.zero_le _, Nat.zero_le _⟩ ?_
      cases hm
      exact mu_iret hx hb hr rfl rfl hP hD hS hK [0, 1] rfl (by decide) dX8_reason_51 hlocks
    · rw [if_pos c39] at hm
      refine lv_iconst (v := (-1)) hx hb dX8_reason_42 (by decide) ?_
      refine lv_goto (tgt := 51) hx hb dX8_reason_43 (by decide) ?_
      cases hm
      exact mu_iret hx hb hr rfl rfl hP hD hS hK [0, 1] rfl (by decide) dX8_reason_51 hlocks
def mX8_saves (f_t_state : Nat → Int32) (p1 : Int32) : Option (Int32) :=
  ((mX8_whyNoMove f_t_state p1).bind fun r2 =>
  (if r2 ≤ 0 then
    ((mX8_prefixOf f_t_state p1).bind fun r15 =>
    ((mX8_weightBelow f_t_state r15).bind fun r18 =>
    some r18))
  else
    some (-1)))
abbrev rmX8_saves : Room := { frames := 7, cells := 0, slots := 0, locals := 148 }
abbrev wX8_saves (cA : ClassId) (a_t a_t_state a_t_kept a_t_stack a_t_text : Nat) (v_t_thrown v_t_saved v_t_textLength v_t_place v_t_sign v_t_readLetters v_t_readLength v_t_readNumber : Int32) (f_t_state : Nat → Int32) : va_W := [(a_t, .inr (7, [.int v_t_thrown, .ref a_t_state, .ref a_t_kept, .ref a_t_stack, .int v_t_saved, .ref a_t_text, .int v_t_textLength, .int v_t_place, .int v_t_sign, .int v_t_readLetters, .int v_t_readLength, .int v_t_readNumber])), (a_t_state, .inl (cA, 255, .inl f_t_state))]
theorem hdX8_saves : yX8_saves.cls = RX8 ∧ yX8_saves.cls ≠ "java/lang/invoke/MethodHandle" ∧ yX8_saves.cls ≠ "java/lang/invoke/VarHandle" ∧ (parseMethodDescriptor yX8_saves.desc).map (fun d => d.parameters.length) = some 1 := by decide +kernel
set_option maxHeartbeats 4000000 in
set_option maxRecDepth 100000 in
theorem kX8_saves (l : Launch) (dC : Nat → ClassId) (dI : Nat → Nat → Nat) (cA : ClassId) (a_t a_t_state a_t_kept a_t_stack a_t_text : Nat) (v_t_thrown v_t_saved v_t_textLength v_t_place v_t_sign v_t_readLetters v_t_readLength v_t_readNumber : Int32) (f_t_state : Nat → Int32) (p1 r : Int32) (hm : (mX8_saves f_t_state p1) = some r) : Met l yX8_saves wsX8_saves rmX8_saves (rpc (dC, dI) [(cA, .int)] (wX8_saves cA a_t a_t_state a_t_kept a_t_stack a_t_text v_t_thrown v_t_saved v_t_textLength v_t_place v_t_sign v_t_readLetters v_t_readLength v_t_readNumber f_t_state) [.ref a_t, .int p1]) (vp_Si (fun x => x = r)) 0 0 (fun _ => False) := by
  unfold mX8_saves at hm
  refine ro_ofW (cc := cX8_saves) (maxL := 2) (ret := (some .int)) (own := RX8) (by decide) rfl rfl (Nat.le_of_ble_eq_true rfl) ?_
  intro p e s m args below meth c hx hb hr hts hown hlocks hml hP hK ls hl
  have hl : lv_has ls 2 [(0, .ref a_t), (1, .int p1)] := hl
  have hP : va_P (dC, dI) vwCl [(a_t, .inr (7, [.int v_t_thrown, .ref a_t_state, .ref a_t_kept, .ref a_t_stack, .int v_t_saved, .ref a_t_text, .int v_t_textLength, .int v_t_place, .int v_t_sign, .int v_t_readLetters, .int v_t_readLength, .int v_t_readNumber])), (a_t_state, .inl (cA, 255, .inl f_t_state))] s.heap := hP
  refine lv_aload_n hx hb dX8_saves_0 rfl (lv_at hl 0 rfl) ?_
  refine lv_iload_n hx hb dX8_saves_1 rfl (lv_at hl 1 rfl) ?_
  obtain ⟨r2, e2, hm⟩ := bs hm
  try dsimp only at hm
  refine ro_callVe ⟨hx, hb, hml, hown, hts⟩ (kX8_whyNoMove l dC dI cA a_t a_t_state a_t_kept a_t_stack a_t_text v_t_thrown v_t_saved v_t_textLength v_t_place v_t_sign v_t_readLetters v_t_readLength v_t_readNumber f_t_state p1 r2 e2) (cwV 1 hts gX8_saves_X8_whyNoMove rfl rfl rfl hdX8_whyNoMove ⟨Nat.le_of_ble_eq_true rfl, Nat.le_of_ble_eq_true rfl⟩) (hP.sub [0, 1] rfl) hK rfl rfl rfl hl.1 rfl (Nat.le_of_ble_eq_true rfl) dX8_saves_2 ⟨Nat.zero_le _, Nat.zero_le _⟩ ?_
  refine lv_if_le (tgt := 12) hx hb dX8_saves_5 (by decide) (fun c5 => ?_) (fun c5 => ?_)
  · rw [if_pos c5] at hm
    refine lv_aload_n hx hb dX8_saves_12 rfl (lv_at hl 0 rfl) ?_
    refine lv_aload_n hx hb dX8_saves_13 rfl (lv_at hl 0 rfl) ?_
    refine lv_iload_n hx hb dX8_saves_14 rfl (lv_at hl 1 rfl) ?_
    obtain ⟨r15, e15, hm⟩ := bs hm
    try dsimp only at hm
    refine ro_callVe ⟨hx, hb, hml, hown, hts⟩ (kX8_prefixOf l dC dI cA a_t a_t_state a_t_kept a_t_stack a_t_text v_t_thrown v_t_saved v_t_textLength v_t_place v_t_sign v_t_readLetters v_t_readLength v_t_readNumber f_t_state p1 r15 e15) (cwV 1 hts gX8_saves_X8_prefixOf rfl rfl rfl hdX8_prefixOf ⟨Nat.le_of_ble_eq_true rfl, Nat.le_of_ble_eq_true rfl⟩) (hP.sub [0, 1] rfl) hK rfl rfl rfl hl.1 rfl (Nat.le_of_ble_eq_true rfl) dX8_saves_15 ⟨Nat.zero_le _, Nat.zero_le _⟩ ?_
    obtain ⟨r18, e18, hm⟩ := bs hm
    try dsimp only at hm
    refine ro_callVe ⟨hx, hb, hml, hown, hts⟩ (kX8_weightBelow l dC dI cA a_t a_t_state a_t_kept a_t_stack a_t_text v_t_thrown v_t_saved v_t_textLength v_t_place v_t_sign v_t_readLetters v_t_readLength v_t_readNumber f_t_state r15 r18 e18) (cwV 1 hts gX8_saves_X8_weightBelow rfl rfl rfl hdX8_weightBelow ⟨Nat.le_of_ble_eq_true rfl, Nat.le_of_ble_eq_true rfl⟩) (hP.sub [0, 1] rfl) hK rfl rfl rfl hl.1 rfl (Nat.le_of_ble_eq_true rfl) dX8_saves_18 ⟨Nat.zero_le _, Nat.zero_le _⟩ ?_
    cases hm
    exact ro_iret hx hb hr rfl rfl dX8_saves_21 hlocks
  · rw [if_neg c5] at hm
    refine lv_iconst (v := (-1)) hx hb dX8_saves_8 (by decide) ?_
    refine lv_goto (tgt := 21) hx hb dX8_saves_9 (by decide) ?_
    cases hm
    exact ro_iret hx hb hr rfl rfl dX8_saves_21 hlocks
def mX8_savedBy (f_t_state : Nat → Int32) (p1 : Int32) : Option (Int32 × Int32) :=
  (if (if (mX8_isHouse f_t_state p1) = 0 then (1 : Int32) else 0) ≤ 0 then
    ((mX8_saves f_t_state p1).bind fun r30 =>
    some (r30, (if (mX8_isHouse f_t_state p1) = 0 then (1 : Int32) else 0)))
  else
    some (0, (if (mX8_isHouse f_t_state p1) = 0 then (1 : Int32) else 0)))
abbrev rmX8_savedBy : Room := { frames := 8, cells := 0, slots := 0, locals := 169 }
abbrev wX8_savedBy (cA : ClassId) (a_t a_t_state a_t_kept a_t_stack a_t_text : Nat) (v_t_thrown v_t_saved v_t_textLength v_t_place v_t_sign v_t_readLetters v_t_readLength v_t_readNumber : Int32) (f_t_state : Nat → Int32) : va_W := [(a_t, .inr (7, [.int v_t_thrown, .ref a_t_state, .ref a_t_kept, .ref a_t_stack, .int v_t_saved, .ref a_t_text, .int v_t_textLength, .int v_t_place, .int v_t_sign, .int v_t_readLetters, .int v_t_readLength, .int v_t_readNumber])), (a_t_state, .inl (cA, 255, .inl f_t_state))]
theorem iX8_savedBy_X8 : ∀ w ∈ wsX80, w ∈ wsX8_savedBy := (fun _ h => List.mem_cons_of_mem _ (List.mem_append_right _ h))
theorem hdX8_savedBy : yX8_savedBy.cls = RX8 ∧ yX8_savedBy.cls ≠ "java/lang/invoke/MethodHandle" ∧ yX8_savedBy.cls ≠ "java/lang/invoke/VarHandle" ∧ (parseMethodDescriptor yX8_savedBy.desc).map (fun d => d.parameters.length) = some 1 := by decide +kernel
set_option maxHeartbeats 4000000 in
set_option maxRecDepth 100000 in
theorem kX8_savedBy (l : Launch) (dC : Nat → ClassId) (dI : Nat → Nat → Nat) (cA : ClassId) (a_t a_t_state a_t_kept a_t_stack a_t_text : Nat) (v_t_thrown v_t_saved v_t_textLength v_t_place v_t_sign v_t_readLetters v_t_readLength v_t_readNumber : Int32) (f_t_state : Nat → Int32) (p1 : Int32) (sz : Nat) (r o_v_t_thrown : Int32) (hm : (mX8_savedBy f_t_state p1) = some (r, o_v_t_thrown)) : Met l yX8_savedBy wsX8_savedBy rmX8_savedBy (mpc (dC, dI) [(cA, .int)] (wX8_savedBy cA a_t a_t_state a_t_kept a_t_stack a_t_text v_t_thrown v_t_saved v_t_textLength v_t_place v_t_sign v_t_readLetters v_t_readLength v_t_readNumber f_t_state) [.ref a_t, .int p1] sz) (mqi (dC, dI) [(cA, .int)] (va_A (wX8_savedBy cA a_t a_t_state a_t_kept a_t_stack a_t_text v_t_thrown v_t_saved v_t_textLength v_t_place v_t_sign v_t_readLetters v_t_readLength v_t_readNumber f_t_state) sz) (wX8_savedBy cA a_t a_t_state a_t_kept a_t_stack a_t_text o_v_t_thrown v_t_saved v_t_textLength v_t_place v_t_sign v_t_readLetters v_t_readLength v_t_readNumber f_t_state) (fun x => x = r)) 0 0 (va_A (wX8_savedBy cA a_t a_t_state a_t_kept a_t_stack a_t_text v_t_thrown v_t_saved v_t_textLength v_t_place v_t_sign v_t_readLetters v_t_readLength v_t_readNumber f_t_state) sz) := by
  unfold mX8_savedBy at hm
  refine mu_ofW (Qc := fun A => mqi (dC, dI) [(cA, .int)] A (wX8_savedBy cA a_t a_t_state a_t_kept a_t_stack a_t_text o_v_t_thrown v_t_saved v_t_textLength v_t_place v_t_sign v_t_readLetters v_t_readLength v_t_readNumber f_t_state) (fun x => x = r)) (cc := cX8_savedBy) (maxL := 2) (ret := (some .int)) (own := RX8) (by decide) rfl rfl (Nat.le_of_ble_eq_true rfl) ?_
  intro p e s m args below meth c hx hb hr hts hown hlocks hml hin A hA hP hD hS hK ls hl
  have hl : lv_has ls 2 [(0, .ref a_t), (1, .int p1)] := hl
  have hP : va_P (dC, dI) vwCl [(a_t, .inr (7, [.int v_t_thrown, .ref a_t_state, .ref a_t_kept, .ref a_t_stack, .int v_t_saved, .ref a_t_text, .int v_t_textLength, .int v_t_place, .int v_t_sign, .int v_t_readLetters, .int v_t_readLength, .int v_t_readNumber])), (a_t_state, .inl (cA, 255, .inl f_t_state))] s.heap := hP
  have hD : va_D A [(a_t, .inr (7, [.int v_t_thrown, .ref a_t_state, .ref a_t_kept, .ref a_t_stack, .int v_t_saved, .ref a_t_text, .int v_t_textLength, .int v_t_place, .int v_t_sign, .int v_t_readLetters, .int v_t_readLength, .int v_t_readNumber])), (a_t_state, .inl (cA, 255, .inl f_t_state))] := hD
  refine lv_aload_n hx hb dX8_savedBy_0 rfl (lv_at hl 0 rfl) ?_
  refine lv_aload_n hx hb dX8_savedBy_1 rfl (lv_at hl 0 rfl) ?_
  refine lv_iload_n hx hb dX8_savedBy_2 rfl (lv_at hl 1 rfl) ?_
  refine ro_callVz ⟨hx, hb, hml, hown, hts⟩ (kX8_isHouse l dC dI cA a_t a_t_state a_t_kept a_t_stack a_t_text v_t_thrown v_t_saved v_t_textLength v_t_place v_t_sign v_t_readLetters v_t_readLength v_t_readNumber f_t_state p1) (cwV 1 hts gX8_savedBy_X8_isHouse rfl rfl rfl hdX8_isHouse ⟨Nat.le_of_ble_eq_true rfl, Nat.le_of_ble_eq_true rfl⟩) (hP.sub [0, 1] rfl) hK rfl rfl rfl hl.1 rfl (Nat.le_of_ble_eq_true rfl) dX8_savedBy_3 ⟨Nat.zero_le _, Nat.zero_le _⟩ (fun hb3 => ?_)
  refine lv_if_eq (tgt := 13) hx hb dX8_savedBy_6 (by decide) (fun c6 => ?_) (fun c6 => ?_)
  · try simp only [if_pos c6] at hm
    refine lv_iconst (v := 1) hx hb dX8_savedBy_13 (by decide) ?_
    refine va_put (D := (dC, dI)) (ci := 7) (C := RX8) (T := TX8) (N := 12) (ty := .int) hx hb hts iX8_savedBy_X8 tyX8 tyX8_ok nmX8 hown hK hP hD hS 0 rfl rfl 0 (by decide) (hts _ (List.mem_of_getElem? (i := 1) rfl)) (fun _ h9 => h9) rfl (by decide +kernel) rfl rfl (Nat.le_of_ble_eq_true rfl) dX8_savedBy_14 (fun H locs hP hD hS => ?_)
    have hP : va_P (dC, dI) vwCl [(a_t, .inr (7, [.int 1, .ref a_t_state, .ref a_t_kept, .ref a_t_stack, .int v_t_saved, .ref a_t_text, .int v_t_textLength, .int v_t_place, .int v_t_sign, .int v_t_readLetters, .int v_t_readLength, .int v_t_readNumber])), (a_t_state, .inl (cA, 255, .inl f_t_state))] H := hP
    have hD : va_D A [(a_t, .inr (7, [.int 1, .ref a_t_state, .ref a_t_kept, .ref a_t_stack, .int v_t_saved, .ref a_t_text, .int v_t_textLength, .int v_t_place, .int v_t_sign, .int v_t_readLetters, .int v_t_readLength, .int v_t_readNumber])), (a_t_state, .inl (cA, 255, .inl f_t_state))] := hD
    refine lv_aload_n hx hb dX8_savedBy_17 rfl (lv_at hl 0 rfl) ?_
    refine va_get (D := (dC, dI)) (ci := 7) (C := RX8) (T := TX8) (N := 12) hx hb hts iX8_savedBy_X8 hown hK hP 0 rfl rfl 0 (by decide) (hts _ (List.mem_of_getElem? (i := 1) rfl)) (fun _ h9 => h9) rfl dX8_savedBy_18 ?_
    refine lv_if_le (tgt := 28) hx hb dX8_savedBy_21 (by decide) (fun c21 => absurd c21 (by decide)) (fun c21 => ?_)
    try rw [if_neg (show ¬ ((1 : Int32) ≤ 0) by decide)] at hm
    refine lv_iconst (v := 0) hx hb dX8_savedBy_24 (by decide) ?_
    refine lv_goto (tgt := 33) hx hb dX8_savedBy_25 (by decide) ?_
    cases hm
    exact mu_iret hx hb hr rfl rfl hP hD hS hK [0, 1] rfl (by decide) dX8_savedBy_33 hlocks
  · try simp only [if_neg c6] at hm
    refine lv_iconst (v := 0) hx hb dX8_savedBy_9 (by decide) ?_
    refine lv_goto (tgt := 14) hx hb dX8_savedBy_10 (by decide) ?_
    refine va_put (D := (dC, dI)) (ci := 7) (C := RX8) (T := TX8) (N := 12) (ty := .int) hx hb hts iX8_savedBy_X8 tyX8 tyX8_ok nmX8 hown hK hP hD hS 0 rfl rfl 0 (by decide) (hts _ (List.mem_of_getElem? (i := 1) rfl)) (fun _ h9 => h9) rfl (by decide +kernel) rfl rfl (Nat.le_of_ble_eq_true rfl) dX8_savedBy_14 (fun H locs hP hD hS => ?_)
    have hP : va_P (dC, dI) vwCl [(a_t, .inr (7, [.int 0, .ref a_t_state, .ref a_t_kept, .ref a_t_stack, .int v_t_saved, .ref a_t_text, .int v_t_textLength, .int v_t_place, .int v_t_sign, .int v_t_readLetters, .int v_t_readLength, .int v_t_readNumber])), (a_t_state, .inl (cA, 255, .inl f_t_state))] H := hP
    have hD : va_D A [(a_t, .inr (7, [.int 0, .ref a_t_state, .ref a_t_kept, .ref a_t_stack, .int v_t_saved, .ref a_t_text, .int v_t_textLength, .int v_t_place, .int v_t_sign, .int v_t_readLetters, .int v_t_readLength, .int v_t_readNumber])), (a_t_state, .inl (cA, 255, .inl f_t_state))] := hD
    refine lv_aload_n hx hb dX8_savedBy_17 rfl (lv_at hl 0 rfl) ?_
    refine va_get (D := (dC, dI)) (ci := 7) (C := RX8) (T := TX8) (N := 12) hx hb hts iX8_savedBy_X8 hown hK hP 0 rfl rfl 0 (by decide) (hts _ (List.mem_of_getElem? (i := 1) rfl)) (fun _ h9 => h9) rfl dX8_savedBy_18 ?_
    refine lv_if_le (tgt := 28) hx hb dX8_savedBy_21 (by decide) (fun c21 => ?_) (fun c21 => absurd c21 (by decide))
    try rw [if_pos (show (0 : Int32) ≤ 0 by decide)] at hm
    refine lv_aload_n hx hb dX8_savedBy_28 rfl (lv_at hl 0 rfl) ?_
    refine lv_iload_n hx hb dX8_savedBy_29 rfl (lv_at hl 1 rfl) ?_
    obtain ⟨r30, e30, hm⟩ := bs hm
    try dsimp only at hm
    refine ro_callVe ⟨hx, hb, hml, hown, hts⟩ (kX8_saves l dC dI cA a_t a_t_state a_t_kept a_t_stack a_t_text 0 v_t_saved v_t_textLength v_t_place v_t_sign v_t_readLetters v_t_readLength v_t_readNumber f_t_state p1 r30 e30) (cwV 1 hts gX8_savedBy_X8_saves rfl rfl rfl hdX8_saves ⟨Nat.le_of_ble_eq_true rfl, Nat.le_of_ble_eq_true rfl⟩) (hP.sub [0, 1] rfl) hK rfl rfl rfl hl.1 rfl (Nat.le_of_ble_eq_true rfl) dX8_savedBy_30 ⟨Nat.zero_le _, Nat.zero_le _⟩ ?_
    cases hm
    exact mu_iret hx hb hr rfl rfl hP hD hS hK [0, 1] rfl (by decide) dX8_savedBy_33 hlocks
def mX8_bestOf_L6 (f_t_state : Nat → Int32) : Nat → (Int32) → (Int32) → (Int32) → Option (Int32 × Int32 × Int32)
  | 0, _, _, _ => none
  | n + 1, x1_6, x2_6, x3_6 =>
    (if (f_t_state 2) ≤ x3_6 then
      some (x1_6, x2_6, x3_6)
    else
      ((mX8_saves f_t_state x3_6).bind fun r18 =>
      mX8_bestOf_L6 f_t_state n (if r18 ≤ x2_6 then x1_6 else x3_6) (if r18 ≤ x2_6 then x2_6 else r18) (x3_6 + 1)))
def mX8_bestOf (f_t_state : Nat → Int32) : Option (Int32) :=
  ((mX8_bestOf_L6 f_t_state FU (-1) (-1) 0).bind fun (y1_6, y2_6, y3_6) =>
  some y1_6)
abbrev rmX8_bestOf : Room := { frames := 8, cells := 0, slots := 0, locals := 169 }
abbrev wX8_bestOf (cA : ClassId) (a_t a_t_state a_t_kept a_t_stack a_t_text : Nat) (v_t_thrown v_t_saved v_t_textLength v_t_place v_t_sign v_t_readLetters v_t_readLength v_t_readNumber : Int32) (f_t_state : Nat → Int32) : va_W := [(a_t, .inr (7, [.int v_t_thrown, .ref a_t_state, .ref a_t_kept, .ref a_t_stack, .int v_t_saved, .ref a_t_text, .int v_t_textLength, .int v_t_place, .int v_t_sign, .int v_t_readLetters, .int v_t_readLength, .int v_t_readNumber])), (a_t_state, .inl (cA, 255, .inl f_t_state))]
theorem iX8_bestOf_X8 : ∀ w ∈ wsX80, w ∈ wsX8_bestOf := (fun _ h => List.mem_cons_of_mem _ (List.mem_append_right _ h))
theorem hdX8_bestOf : yX8_bestOf.cls = RX8 ∧ yX8_bestOf.cls ≠ "java/lang/invoke/MethodHandle" ∧ yX8_bestOf.cls ≠ "java/lang/invoke/VarHandle" ∧ (parseMethodDescriptor yX8_bestOf.desc).map (fun d => d.parameters.length) = some 0 := by decide +kernel
set_option maxHeartbeats 4000000 in
set_option maxRecDepth 100000 in
theorem wX8_bestOf_L6 {p : Program} {l : Launch} {e : Env} {s : State} {m : MethodId} {args : Array Value} {below : List Frame} {meth : Method} {c : Code} {Q : State → Prop} {H : Heap} (dC : Nat → ClassId) (dI : Nat → Nat → Nat) (cA : ClassId) (a_t a_t_state a_t_kept a_t_stack a_t_text : Nat) (v_t_thrown v_t_saved v_t_textLength v_t_place v_t_sign v_t_readLetters v_t_readLength v_t_readNumber : Int32) (f_t_state : Nat → Int32) (y1_6 y2_6 y3_6 : Int32) (hx : p.tables.exec = Jvm.exec) (hb : c.code = cX8_bestOf) (hml : c.maxLocals = 5) (hown : s.vm.findClass RX8 = some m.cls) (hts : ∀ w ∈ wsX8_bestOf, w.before args s = true) (hK : va_K (dC, dI) vwCl [(cA, .int)] s) (hP : va_P (dC, dI) vwCl [(a_t, .inr (7, [.int v_t_thrown, .ref a_t_state, .ref a_t_kept, .ref a_t_stack, .int v_t_saved, .ref a_t_text, .int v_t_textLength, .int v_t_place, .int v_t_sign, .int v_t_readLetters, .int v_t_readLength, .int v_t_readNumber])), (a_t_state, .inl (cA, 255, .inl f_t_state))] H)
    (kk0 : ∀ ls : Array Slot, lv_has ls 5 [(0, .ref a_t), (1, .int y1_6), (2, .int y2_6), (3, .int y3_6)] → W p l e (headSpec wsX8_bestOf rmX8_bestOf).room s m args below meth c H [] 0 0 Q (F0 m 54 ls [])) :
    ∀ (n : Nat) (x1_6 x2_6 x3_6 : Int32), mX8_bestOf_L6 f_t_state n x1_6 x2_6 x3_6 = some (y1_6, y2_6, y3_6) → ∀ ls : Array Slot, lv_has ls 5 [(0, .ref a_t), (1, .int x1_6), (2, .int x2_6), (3, .int x3_6)] → W p l e (headSpec wsX8_bestOf rmX8_bestOf).room s m args below meth c H [] 0 0 Q (F0 m 6 ls []) := by
  intro n
  induction n with
  | zero =>
    intro x1_6 x2_6 x3_6 hm
    cases hm
  | succ n ih =>
    intro x1_6 x2_6 x3_6 hm ls hl
    rw [mX8_bestOf_L6] at hm
    refine lv_iload_n hx hb dX8_bestOf_6 rfl (lv_at hl 3 rfl) ?_
    refine lv_aload_n hx hb dX8_bestOf_7 rfl (lv_at hl 0 rfl) ?_
    refine va_get (D := (dC, dI)) (ci := 7) (C := RX8) (T := TX8) (N := 12) hx hb hts iX8_bestOf_X8 hown hK hP 0 rfl rfl 1 (by decide) (hts _ (List.mem_of_getElem? (i := 1) rfl)) (fun _ h9 => h9) rfl dX8_bestOf_8 ?_
    refine lv_iconst (v := 2) hx hb dX8_bestOf_11 (by decide) ?_
    refine xa_ldK hx hb hK hP 1 0 rfl rfl 2 rfl (by decide) (by decide) dX8_bestOf_12 ?_
    refine lv_icmp_ge (tgt := 54) hx hb dX8_bestOf_13 (by decide) (fun c13 => ?_) (fun c13 => ?_)
    · rw [if_pos c13] at hm
      cases hm
      exact kk0 _ (lv_sub hl [0, 1, 2, 3] rfl)
    · rw [if_neg c13] at hm
      refine lv_aload_n hx hb dX8_bestOf_16 rfl (lv_at hl 0 rfl) ?_
      refine lv_iload_n hx hb dX8_bestOf_17 rfl (lv_at hl 3 rfl) ?_
      obtain ⟨r18, e18, hm⟩ := bs hm
      try dsimp only at hm
      refine ro_callVe ⟨hx, hb, hml, hown, hts⟩ (kX8_saves l dC dI cA a_t a_t_state a_t_kept a_t_stack a_t_text v_t_thrown v_t_saved v_t_textLength v_t_place v_t_sign v_t_readLetters v_t_readLength v_t_readNumber f_t_state x3_6 r18 e18) (cwV 1 hts gX8_bestOf_X8_saves rfl rfl rfl hdX8_saves ⟨Nat.le_of_ble_eq_true rfl, Nat.le_of_ble_eq_true rfl⟩) (hP.sub [0, 1] rfl) hK rfl rfl rfl hl.1 rfl (Nat.le_of_ble_eq_true rfl) dX8_bestOf_18 ⟨Nat.zero_le _, Nat.zero_le _⟩ ?_
      refine lv_istore (lv' := [(4, .int r18), (0, .ref a_t), (1, .int x1_6), (2, .int x2_6), (3, .int x3_6)]) hx hb dX8_bestOf_21 hl (by decide) rfl (fun ls hl => ?_)
      refine lv_iload hx hb dX8_bestOf_23 (lv_at hl 0 rfl) ?_
      refine lv_iload_n hx hb dX8_bestOf_25 rfl (lv_at hl 3 rfl) ?_
      refine lv_icmp_le (tgt := 33) hx hb dX8_bestOf_26 (by decide) (fun c26 => ?_) (fun c26 => ?_)
      · try simp only [if_pos c26] at hm
        refine lv_iload_n hx hb dX8_bestOf_33 rfl (lv_at hl 2 rfl) ?_
        refine lv_istore_n (lv' := [(1, .int x1_6), (4, .int r18), (0, .ref a_t), (2, .int x2_6), (3, .int x3_6)]) hx hb dX8_bestOf_34 rfl hl (by decide) rfl (fun ls hl => ?_)
        refine lv_iload hx hb dX8_bestOf_35 (lv_at hl 1 rfl) ?_
        refine lv_iload_n hx hb dX8_bestOf_37 rfl (lv_at hl 3 rfl) ?_
        refine lv_icmp_le (tgt := 46) hx hb dX8_bestOf_38 (by decide) (fun c38 => ?_) (fun c38 => absurd c26 c38)
        try rw [if_pos c26] at hm
        refine lv_iload_n hx hb dX8_bestOf_46 rfl (lv_at hl 3 rfl) ?_
        refine lv_istore_n (lv' := [(2, .int x2_6), (1, .int x1_6), (4, .int r18), (0, .ref a_t), (3, .int x3_6)]) hx hb dX8_bestOf_47 rfl hl (by decide) rfl (fun ls hl => ?_)
        refine lv_iinc (v := (x3_6 + 1)) (lv' := [(3, .int (x3_6 + 1)), (2, .int x2_6), (1, .int x1_6), (4, .int r18), (0, .ref a_t)]) hx hb dX8_bestOf_48 hl (k := 4) rfl rfl (by decide) rfl (fun ls hl => ?_)
        refine lv_goto (tgt := 6) hx hb dX8_bestOf_51 (by decide) ?_
        exact ih _ _ _ hm _ (lv_sub hl [4, 2, 1, 0] rfl)
      · try simp only [if_neg c26] at hm
        refine lv_iload_n hx hb dX8_bestOf_29 rfl (lv_at hl 4 rfl) ?_
        refine lv_goto (tgt := 34) hx hb dX8_bestOf_30 (by decide) ?_
        refine lv_istore_n (lv' := [(1, .int x3_6), (4, .int r18), (0, .ref a_t), (2, .int x2_6), (3, .int x3_6)]) hx hb dX8_bestOf_34 rfl hl (by decide) rfl (fun ls hl => ?_)
        refine lv_iload hx hb dX8_bestOf_35 (lv_at hl 1 rfl) ?_
        refine lv_iload_n hx hb dX8_bestOf_37 rfl (lv_at hl 3 rfl) ?_
        refine lv_icmp_le (tgt := 46) hx hb dX8_bestOf_38 (by decide) (fun c38 => absurd c38 c26) (fun c38 => ?_)
        try rw [if_neg c26] at hm
        refine lv_iload hx hb dX8_bestOf_41 (lv_at hl 1 rfl) ?_
        refine lv_goto (tgt := 47) hx hb dX8_bestOf_43 (by decide) ?_
        refine lv_istore_n (lv' := [(2, .int r18), (1, .int x3_6), (4, .int r18), (0, .ref a_t), (3, .int x3_6)]) hx hb dX8_bestOf_47 rfl hl (by decide) rfl (fun ls hl => ?_)
        refine lv_iinc (v := (x3_6 + 1)) (lv' := [(3, .int (x3_6 + 1)), (2, .int r18), (1, .int x3_6), (4, .int r18), (0, .ref a_t)]) hx hb dX8_bestOf_48 hl (k := 4) rfl rfl (by decide) rfl (fun ls hl => ?_)
        refine lv_goto (tgt := 6) hx hb dX8_bestOf_51 (by decide) ?_
        exact ih _ _ _ hm _ (lv_sub hl [4, 2, 1, 0] rfl)
set_option maxHeartbeats 4000000 in
set_option maxRecDepth 100000 in
theorem kX8_bestOf (l : Launch) (dC : Nat → ClassId) (dI : Nat → Nat → Nat) (cA : ClassId) (a_t a_t_state a_t_kept a_t_stack a_t_text : Nat) (v_t_thrown v_t_saved v_t_textLength v_t_place v_t_sign v_t_readLetters v_t_readLength v_t_readNumber : Int32) (f_t_state : Nat → Int32) (r : Int32) (hm : (mX8_bestOf f_t_state) = some r) : Met l yX8_bestOf wsX8_bestOf rmX8_bestOf (rpc (dC, dI) [(cA, .int)] (wX8_bestOf cA a_t a_t_state a_t_kept a_t_stack a_t_text v_t_thrown v_t_saved v_t_textLength v_t_place v_t_sign v_t_readLetters v_t_readLength v_t_readNumber f_t_state) [.ref a_t]) (vp_Si (fun x => x = r)) 0 0 (fun _ => False) := by
  unfold mX8_bestOf at hm
  refine ro_ofW (cc := cX8_bestOf) (maxL := 5) (ret := (some .int)) (own := RX8) (by decide) rfl rfl (Nat.le_of_ble_eq_true rfl) ?_
  intro p e s m args below meth c hx hb hr hts hown hlocks hml hP hK ls hl
  have hl : lv_has ls 5 [(0, .ref a_t)] := hl
  have hP : va_P (dC, dI) vwCl [(a_t, .inr (7, [.int v_t_thrown, .ref a_t_state, .ref a_t_kept, .ref a_t_stack, .int v_t_saved, .ref a_t_text, .int v_t_textLength, .int v_t_place, .int v_t_sign, .int v_t_readLetters, .int v_t_readLength, .int v_t_readNumber])), (a_t_state, .inl (cA, 255, .inl f_t_state))] s.heap := hP
  refine lv_iconst (v := (-1)) hx hb dX8_bestOf_0 (by decide) ?_
  refine lv_istore_n (lv' := [(1, .int (-1)), (0, .ref a_t)]) hx hb dX8_bestOf_1 rfl hl (by decide) rfl (fun ls hl => ?_)
  refine lv_iconst (v := (-1)) hx hb dX8_bestOf_2 (by decide) ?_
  refine lv_istore_n (lv' := [(2, .int (-1)), (1, .int (-1)), (0, .ref a_t)]) hx hb dX8_bestOf_3 rfl hl (by decide) rfl (fun ls hl => ?_)
  refine lv_iconst (v := 0) hx hb dX8_bestOf_4 (by decide) ?_
  refine lv_istore_n (lv' := [(3, .int 0), (2, .int (-1)), (1, .int (-1)), (0, .ref a_t)]) hx hb dX8_bestOf_5 rfl hl (by decide) rfl (fun ls hl => ?_)
  obtain ⟨⟨y1_6, y2_6, y3_6⟩, e6, hm⟩ := bs hm
  try dsimp only at hm
  refine wX8_bestOf_L6 dC dI cA a_t a_t_state a_t_kept a_t_stack a_t_text v_t_thrown v_t_saved v_t_textLength v_t_place v_t_sign v_t_readLetters v_t_readLength v_t_readNumber f_t_state  y1_6 y2_6 y3_6 hx hb hml hown hts hK (hP.sub [0, 1] rfl) ?_ FU _ _ _ e6 _ (lv_sub hl [3, 2, 1, 0] rfl)
  · intro ls hl
    refine lv_iload_n hx hb dX8_bestOf_54 rfl (lv_at hl 1 rfl) ?_
    cases hm
    exact ro_iret hx hb hr rfl rfl dX8_bestOf_55 hlocks
def mX8_bestMove (f_t_state : Nat → Int32) : Option (Int32 × Int32) :=
  ((mX8_bestOf f_t_state).bind fun r6 =>
  some (r6, 0))
abbrev rmX8_bestMove : Room := { frames := 9, cells := 0, slots := 0, locals := 193 }
abbrev wX8_bestMove (cA : ClassId) (a_t a_t_state a_t_kept a_t_stack a_t_text : Nat) (v_t_thrown v_t_saved v_t_textLength v_t_place v_t_sign v_t_readLetters v_t_readLength v_t_readNumber : Int32) (f_t_state : Nat → Int32) : va_W := [(a_t, .inr (7, [.int v_t_thrown, .ref a_t_state, .ref a_t_kept, .ref a_t_stack, .int v_t_saved, .ref a_t_text, .int v_t_textLength, .int v_t_place, .int v_t_sign, .int v_t_readLetters, .int v_t_readLength, .int v_t_readNumber])), (a_t_state, .inl (cA, 255, .inl f_t_state))]
theorem iX8_bestMove_X8 : ∀ w ∈ wsX80, w ∈ wsX8_bestMove := (fun _ h => List.mem_cons_of_mem _ (List.mem_append_right _ h))
theorem hdX8_bestMove : yX8_bestMove.cls = RX8 ∧ yX8_bestMove.cls ≠ "java/lang/invoke/MethodHandle" ∧ yX8_bestMove.cls ≠ "java/lang/invoke/VarHandle" ∧ (parseMethodDescriptor yX8_bestMove.desc).map (fun d => d.parameters.length) = some 0 := by decide +kernel
set_option maxHeartbeats 4000000 in
set_option maxRecDepth 100000 in
theorem kX8_bestMove (l : Launch) (dC : Nat → ClassId) (dI : Nat → Nat → Nat) (cA : ClassId) (a_t a_t_state a_t_kept a_t_stack a_t_text : Nat) (v_t_thrown v_t_saved v_t_textLength v_t_place v_t_sign v_t_readLetters v_t_readLength v_t_readNumber : Int32) (f_t_state : Nat → Int32) (sz : Nat) (r o_v_t_thrown : Int32) (hm : (mX8_bestMove f_t_state) = some (r, o_v_t_thrown)) : Met l yX8_bestMove wsX8_bestMove rmX8_bestMove (mpc (dC, dI) [(cA, .int)] (wX8_bestMove cA a_t a_t_state a_t_kept a_t_stack a_t_text v_t_thrown v_t_saved v_t_textLength v_t_place v_t_sign v_t_readLetters v_t_readLength v_t_readNumber f_t_state) [.ref a_t] sz) (mqi (dC, dI) [(cA, .int)] (va_A (wX8_bestMove cA a_t a_t_state a_t_kept a_t_stack a_t_text v_t_thrown v_t_saved v_t_textLength v_t_place v_t_sign v_t_readLetters v_t_readLength v_t_readNumber f_t_state) sz) (wX8_bestMove cA a_t a_t_state a_t_kept a_t_stack a_t_text o_v_t_thrown v_t_saved v_t_textLength v_t_place v_t_sign v_t_readLetters v_t_readLength v_t_readNumber f_t_state) (fun x => x = r)) 0 0 (va_A (wX8_bestMove cA a_t a_t_state a_t_kept a_t_stack a_t_text v_t_thrown v_t_saved v_t_textLength v_t_place v_t_sign v_t_readLetters v_t_readLength v_t_readNumber f_t_state) sz) := by
  unfold mX8_bestMove at hm
  refine mu_ofW (Qc := fun A => mqi (dC, dI) [(cA, .int)] A (wX8_bestMove cA a_t a_t_state a_t_kept a_t_stack a_t_text o_v_t_thrown v_t_saved v_t_textLength v_t_place v_t_sign v_t_readLetters v_t_readLength v_t_readNumber f_t_state) (fun x => x = r)) (cc := cX8_bestMove) (maxL := 1) (ret := (some .int)) (own := RX8) (by decide) rfl rfl (Nat.le_of_ble_eq_true rfl) ?_
  intro p e s m args below meth c hx hb hr hts hown hlocks hml hin A hA hP hD hS hK ls hl
  have hl : lv_has ls 1 [(0, .ref a_t)] := hl
  have hP : va_P (dC, dI) vwCl [(a_t, .inr (7, [.int v_t_thrown, .ref a_t_state, .ref a_t_kept, .ref a_t_stack, .int v_t_saved, .ref a_t_text, .int v_t_textLength, .int v_t_place, .int v_t_sign, .int v_t_readLetters, .int v_t_readLength, .int v_t_readNumber])), (a_t_state, .inl (cA, 255, .inl f_t_state))] s.heap := hP
  have hD : va_D A [(a_t, .inr (7, [.int v_t_thrown, .ref a_t_state, .ref a_t_kept, .ref a_t_stack, .int v_t_saved, .ref a_t_text, .int v_t_textLength, .int v_t_place, .int v_t_sign, .int v_t_readLetters, .int v_t_readLength, .int v_t_readNumber])), (a_t_state, .inl (cA, 255, .inl f_t_state))] := hD
  refine lv_aload_n hx hb dX8_bestMove_0 rfl (lv_at hl 0 rfl) ?_
  refine lv_iconst (v := 0) hx hb dX8_bestMove_1 (by decide) ?_
  refine va_put (D := (dC, dI)) (ci := 7) (C := RX8) (T := TX8) (N := 12) (ty := .int) hx hb hts iX8_bestMove_X8 tyX8 tyX8_ok nmX8 hown hK hP hD hS 0 rfl rfl 0 (by decide) (hts _ (List.mem_of_getElem? (i := 1) rfl)) (fun _ h9 => h9) rfl (by decide +kernel) rfl rfl (Nat.le_of_ble_eq_true rfl) dX8_bestMove_2 (fun H locs hP hD hS => ?_)
  have hP : va_P (dC, dI) vwCl [(a_t, .inr (7, [.int 0, .ref a_t_state, .ref a_t_kept, .ref a_t_stack, .int v_t_saved, .ref a_t_text, .int v_t_textLength, .int v_t_place, .int v_t_sign, .int v_t_readLetters, .int v_t_readLength, .int v_t_readNumber])), (a_t_state, .inl (cA, 255, .inl f_t_state))] H := hP
  have hD : va_D A [(a_t, .inr (7, [.int 0, .ref a_t_state, .ref a_t_kept, .ref a_t_stack, .int v_t_saved, .ref a_t_text, .int v_t_textLength, .int v_t_place, .int v_t_sign, .int v_t_readLetters, .int v_t_readLength, .int v_t_readNumber])), (a_t_state, .inl (cA, 255, .inl f_t_state))] := hD
  refine lv_aload_n hx hb dX8_bestMove_5 rfl (lv_at hl 0 rfl) ?_
  obtain ⟨r6, e6, hm⟩ := bs hm
  try dsimp only at hm
  refine ro_callVe ⟨hx, hb, hml, hown, hts⟩ (kX8_bestOf l dC dI cA a_t a_t_state a_t_kept a_t_stack a_t_text 0 v_t_saved v_t_textLength v_t_place v_t_sign v_t_readLetters v_t_readLength v_t_readNumber f_t_state r6 e6) (cwV 0 hts gX8_bestMove_X8_bestOf rfl rfl rfl hdX8_bestOf ⟨Nat.le_of_ble_eq_true rfl, Nat.le_of_ble_eq_true rfl⟩) (hP.sub [0, 1] rfl) hK rfl rfl rfl hl.1 rfl (Nat.le_of_ble_eq_true rfl) dX8_bestMove_6 ⟨Nat.zero_le _, Nat.zero_le _⟩ ?_
  cases hm
  exact mu_iret hx hb hr rfl rfl hP hD hS hK [0, 1] rfl (by decide) dX8_bestMove_9 hlocks
def mX8_costWith (f_t_state : Nat → Int32) (f_t_kept : Nat → Int32) (p1 : Int32) : Option (Int32 × Int32 × (Nat → Int32) × (Nat → Int32)) :=
  (if (if (mX8_isLimit p1) = 0 then (1 : Int32) else 0) ≤ 0 then
    ((mX8_copy 255 255 f_t_state f_t_kept 0 0).bind fun f_t_kept_35 =>
    ((mX8_expanded (upd f_t_state 0 p1)).bind fun (r46, f_t_state_46) =>
    ((mX8_compressed f_t_state_46).bind fun (r51, f_t_state_51) =>
    ((mX8_costOf f_t_state_51).bind fun r56 =>
    ((mX8_copy 255 255 f_t_kept_35 f_t_state_51 0 0).bind fun f_t_state_70 =>
    some (r56, (if (mX8_isLimit p1) = 0 then (1 : Int32) else 0), f_t_state_70, f_t_kept_35))))))
  else
    some (0, (if (mX8_isLimit p1) = 0 then (1 : Int32) else 0), f_t_state, f_t_kept))
abbrev rmX8_costWith : Room := { frames := 8, cells := 0, slots := 0, locals := 170 }
abbrev wX8_costWith (cA : ClassId) (a_t a_t_state a_t_kept a_t_stack a_t_text : Nat) (v_t_thrown v_t_saved v_t_textLength v_t_place v_t_sign v_t_readLetters v_t_readLength v_t_readNumber : Int32) (f_t_state f_t_kept : Nat → Int32) : va_W := [(a_t, .inr (7, [.int v_t_thrown, .ref a_t_state, .ref a_t_kept, .ref a_t_stack, .int v_t_saved, .ref a_t_text, .int v_t_textLength, .int v_t_place, .int v_t_sign, .int v_t_readLetters, .int v_t_readLength, .int v_t_readNumber])), (a_t_state, .inl (cA, 255, .inl f_t_state)), (a_t_kept, .inl (cA, 255, .inl f_t_kept))]
theorem iX8_costWith_X8 : ∀ w ∈ wsX80, w ∈ wsX8_costWith := (fun _ h => List.mem_cons_of_mem _ (List.mem_append_right _ h))
theorem hdX8_costWith : yX8_costWith.cls = RX8 ∧ yX8_costWith.cls ≠ "java/lang/invoke/MethodHandle" ∧ yX8_costWith.cls ≠ "java/lang/invoke/VarHandle" ∧ (parseMethodDescriptor yX8_costWith.desc).map (fun d => d.parameters.length) = some 1 := by decide +kernel
set_option maxHeartbeats 4000000 in
set_option maxRecDepth 100000 in
theorem kX8_costWith (l : Launch) (dC : Nat → ClassId) (dI : Nat → Nat → Nat) (cA : ClassId) (a_t a_t_state a_t_kept a_t_stack a_t_text : Nat) (v_t_thrown v_t_saved v_t_textLength v_t_place v_t_sign v_t_readLetters v_t_readLength v_t_readNumber : Int32) (f_t_state f_t_kept : Nat → Int32) (p1 : Int32) (sz : Nat) (r o_v_t_thrown : Int32) (o_f_t_state o_f_t_kept : Nat → Int32) (hm : (mX8_costWith f_t_state f_t_kept p1) = some (r, o_v_t_thrown, o_f_t_state, o_f_t_kept)) : Met l yX8_costWith wsX8_costWith rmX8_costWith (mpc (dC, dI) [(cA, .int)] (wX8_costWith cA a_t a_t_state a_t_kept a_t_stack a_t_text v_t_thrown v_t_saved v_t_textLength v_t_place v_t_sign v_t_readLetters v_t_readLength v_t_readNumber f_t_state f_t_kept) [.ref a_t, .int p1] sz) (mqi (dC, dI) [(cA, .int)] (va_A (wX8_costWith cA a_t a_t_state a_t_kept a_t_stack a_t_text v_t_thrown v_t_saved v_t_textLength v_t_place v_t_sign v_t_readLetters v_t_readLength v_t_readNumber f_t_state f_t_kept) sz) (wX8_costWith cA a_t a_t_state a_t_kept a_t_stack a_t_text o_v_t_thrown v_t_saved v_t_textLength v_t_place v_t_sign v_t_readLetters v_t_readLength v_t_readNumber o_f_t_state o_f_t_kept) (fun x => x = r)) 0 0 (va_A (wX8_costWith cA a_t a_t_state a_t_kept a_t_stack a_t_text v_t_thrown v_t_saved v_t_textLength v_t_place v_t_sign v_t_readLetters v_t_readLength v_t_readNumber f_t_state f_t_kept) sz) := by
  unfold mX8_costWith at hm
  refine mu_ofW (Qc := fun A => mqi (dC, dI) [(cA, .int)] A (wX8_costWith cA a_t a_t_state a_t_kept a_t_stack a_t_text o_v_t_thrown v_t_saved v_t_textLength v_t_place v_t_sign v_t_readLetters v_t_readLength v_t_readNumber o_f_t_state o_f_t_kept) (fun x => x = r)) (cc := cX8_costWith) (maxL := 3) (ret := (some .int)) (own := RX8) (by decide) rfl rfl (Nat.le_of_ble_eq_true rfl) ?_
  intro p e s m args below meth c hx hb hr hts hown hlocks hml hin A hA hP hD hS hK ls hl
  have hl : lv_has ls 3 [(0, .ref a_t), (1, .int p1)] := hl
  have hP : va_P (dC, dI) vwCl [(a_t, .inr (7, [.int v_t_thrown, .ref a_t_state, .ref a_t_kept, .ref a_t_stack, .int v_t_saved, .ref a_t_text, .int v_t_textLength, .int v_t_place, .int v_t_sign, .int v_t_readLetters, .int v_t_readLength, .int v_t_readNumber])), (a_t_state, .inl (cA, 255, .inl f_t_state)), (a_t_kept, .inl (cA, 255, .inl f_t_kept))] s.heap := hP
  have hD : va_D A [(a_t, .inr (7, [.int v_t_thrown, .ref a_t_state, .ref a_t_kept, .ref a_t_stack, .int v_t_saved, .ref a_t_text, .int v_t_textLength, .int v_t_place, .int v_t_sign, .int v_t_readLetters, .int v_t_readLength, .int v_t_readNumber])), (a_t_state, .inl (cA, 255, .inl f_t_state)), (a_t_kept, .inl (cA, 255, .inl f_t_kept))] := hD
  refine lv_aload_n hx hb dX8_costWith_0 rfl (lv_at hl 0 rfl) ?_
  refine lv_iload_n hx hb dX8_costWith_1 rfl (lv_at hl 1 rfl) ?_
  refine sp_callSz ⟨hx, hb, hml, hown, hts⟩ (kX8_isLimit l p1) (va_cwS 1 hts gX8_costWith_X8_isLimit rfl rfl rfl hdX8_isLimit.2 ⟨Nat.le_of_ble_eq_true rfl, Nat.le_of_ble_eq_true rfl⟩) rfl hl.1 rfl (Nat.le_of_ble_eq_true rfl) dX8_costWith_2 ⟨Nat.zero_le _, Nat.zero_le _⟩ (fun hb2 => ?_)
  refine lv_if_eq (tgt := 12) hx hb dX8_costWith_5 (by decide) (fun c5 => ?_) (fun c5 => ?_)
  · try simp only [if_pos c5] at hm
    refine lv_iconst (v := 1) hx hb dX8_costWith_12 (by decide) ?_
    refine va_put (D := (dC, dI)) (ci := 7) (C := RX8) (T := TX8) (N := 12) (ty := .int) hx hb hts iX8_costWith_X8 tyX8 tyX8_ok nmX8 hown hK hP hD hS 0 rfl rfl 0 (by decide) (hts _ (List.mem_of_getElem? (i := 1) rfl)) (fun _ h9 => h9) rfl (by decide +kernel) rfl rfl (Nat.le_of_ble_eq_true rfl) dX8_costWith_13 (fun H locs hP hD hS => ?_)
    have hP : va_P (dC, dI) vwCl [(a_t, .inr (7, [.int 1, .ref a_t_state, .ref a_t_kept, .ref a_t_stack, .int v_t_saved, .ref a_t_text, .int v_t_textLength, .int v_t_place, .int v_t_sign, .int v_t_readLetters, .int v_t_readLength, .int v_t_readNumber])), (a_t_state, .inl (cA, 255, .inl f_t_state)), (a_t_kept, .inl (cA, 255, .inl f_t_kept))] H := hP
    have hD : va_D A [(a_t, .inr (7, [.int 1, .ref a_t_state, .ref a_t_kept, .ref a_t_stack, .int v_t_saved, .ref a_t_text, .int v_t_textLength, .int v_t_place, .int v_t_sign, .int v_t_readLetters, .int v_t_readLength, .int v_t_readNumber])), (a_t_state, .inl (cA, 255, .inl f_t_state)), (a_t_kept, .inl (cA, 255, .inl f_t_kept))] := hD
    refine lv_aload_n hx hb dX8_costWith_16 rfl (lv_at hl 0 rfl) ?_
    refine va_get (D := (dC, dI)) (ci := 7) (C := RX8) (T := TX8) (N := 12) hx hb hts iX8_costWith_X8 hown hK hP 0 rfl rfl 0 (by decide) (hts _ (List.mem_of_getElem? (i := 1) rfl)) (fun _ h9 => h9) rfl dX8_costWith_17 ?_
    refine lv_if_le (tgt := 25) hx hb dX8_costWith_20 (by decide) (fun c20 => absurd c20 (by decide)) (fun c20 => ?_)
    try rw [if_neg (show ¬ ((1 : Int32) ≤ 0) by decide)] at hm
    refine lv_iconst (v := 0) hx hb dX8_costWith_23 (by decide) ?_
    cases hm
    exact mu_iret hx hb hr rfl rfl hP hD hS hK [0, 1, 2] rfl (by decide) dX8_costWith_24 hlocks
  · try simp only [if_neg c5] at hm
    refine lv_iconst (v := 0) hx hb dX8_costWith_8 (by decide) ?_
    refine lv_goto (tgt := 13) hx hb dX8_costWith_9 (by decide) ?_
    refine va_put (D := (dC, dI)) (ci := 7) (C := RX8) (T := TX8) (N := 12) (ty := .int) hx hb hts iX8_costWith_X8 tyX8 tyX8_ok nmX8 hown hK hP hD hS 0 rfl rfl 0 (by decide) (hts _ (List.mem_of_getElem? (i := 1) rfl)) (fun _ h9 => h9) rfl (by decide +kernel) rfl rfl (Nat.le_of_ble_eq_true rfl) dX8_costWith_13 (fun H locs hP hD hS => ?_)
    have hP : va_P (dC, dI) vwCl [(a_t, .inr (7, [.int 0, .ref a_t_state, .ref a_t_kept, .ref a_t_stack, .int v_t_saved, .ref a_t_text, .int v_t_textLength, .int v_t_place, .int v_t_sign, .int v_t_readLetters, .int v_t_readLength, .int v_t_readNumber])), (a_t_state, .inl (cA, 255, .inl f_t_state)), (a_t_kept, .inl (cA, 255, .inl f_t_kept))] H := hP
    have hD : va_D A [(a_t, .inr (7, [.int 0, .ref a_t_state, .ref a_t_kept, .ref a_t_stack, .int v_t_saved, .ref a_t_text, .int v_t_textLength, .int v_t_place, .int v_t_sign, .int v_t_readLetters, .int v_t_readLength, .int v_t_readNumber])), (a_t_state, .inl (cA, 255, .inl f_t_state)), (a_t_kept, .inl (cA, 255, .inl f_t_kept))] := hD
    refine lv_aload_n hx hb dX8_costWith_16 rfl (lv_at hl 0 rfl) ?_
    refine va_get (D := (dC, dI)) (ci := 7) (C := RX8) (T := TX8) (N := 12) hx hb hts iX8_costWith_X8 hown hK hP 0 rfl rfl 0 (by decide) (hts _ (List.mem_of_getElem? (i := 1) rfl)) (fun _ h9 => h9) rfl dX8_costWith_17 ?_
    refine lv_if_le (tgt := 25) hx hb dX8_costWith_20 (by decide) (fun c20 => ?_) (fun c20 => absurd c20 (by decide))
    try rw [if_pos (show (0 : Int32) ≤ 0 by decide)] at hm
    refine lv_aload_n hx hb dX8_costWith_25 rfl (lv_at hl 0 rfl) ?_
    refine va_get (D := (dC, dI)) (ci := 7) (C := RX8) (T := TX8) (N := 12) hx hb hts iX8_costWith_X8 hown hK hP 0 rfl rfl 1 (by decide) (hts _ (List.mem_of_getElem? (i := 2) rfl)) (fun _ h9 => h9) rfl dX8_costWith_26 ?_
    refine lv_iconst (v := 0) hx hb dX8_costWith_29 (by decide) ?_
    refine lv_aload_n hx hb dX8_costWith_30 rfl (lv_at hl 0 rfl) ?_
    refine va_get (D := (dC, dI)) (ci := 7) (C := RX8) (T := TX8) (N := 12) hx hb hts iX8_costWith_X8 hown hK hP 0 rfl rfl 2 (by decide) (hts _ (List.mem_of_getElem? (i := 3) rfl)) (fun _ h9 => h9) rfl dX8_costWith_31 ?_
    refine lv_iconst (v := 0) hx hb dX8_costWith_34 (by decide) ?_
    obtain ⟨f_t_kept_35, e35, hm⟩ := bs hm
    try dsimp only at hm
    refine mu_callSv (wr := [(a_t, .inr (7, [.int 0, .ref a_t_state, .ref a_t_kept, .ref a_t_stack, .int v_t_saved, .ref a_t_text, .int v_t_textLength, .int v_t_place, .int v_t_sign, .int v_t_readLetters, .int v_t_readLength, .int v_t_readNumber]))]) ⟨hx, hb, hml, hown, hts⟩ (kX8_copy l dC dI cA a_t_state a_t_kept 255 255 (by decide) (by decide) f_t_state f_t_kept 0 0 _ f_t_kept_35 e35) (va_cwS 4 hts gX8_costWith_X8_copy rfl rfl rfl hdX8_copy.2 ⟨Nat.le_of_ble_eq_true rfl, Nat.le_of_ble_eq_true rfl⟩) hP hD hS hA hK [1, 2] [0] rfl rfl rfl rfl (by decide) rfl hl.1 rfl (Nat.le_of_ble_eq_true rfl) dX8_costWith_35 ⟨Nat.zero_le _, Nat.zero_le _⟩ (fun H locs hP hD hS => ?_)
    have hP : va_P (dC, dI) vwCl [(a_t, .inr (7, [.int 0, .ref a_t_state, .ref a_t_kept, .ref a_t_stack, .int v_t_saved, .ref a_t_text, .int v_t_textLength, .int v_t_place, .int v_t_sign, .int v_t_readLetters, .int v_t_readLength, .int v_t_readNumber])), (a_t_state, .inl (cA, 255, .inl f_t_state)), (a_t_kept, .inl (cA, 255, .inl f_t_kept_35))] H := hP
    have hD : va_D A [(a_t, .inr (7, [.int 0, .ref a_t_state, .ref a_t_kept, .ref a_t_stack, .int v_t_saved, .ref a_t_text, .int v_t_textLength, .int v_t_place, .int v_t_sign, .int v_t_readLetters, .int v_t_readLength, .int v_t_readNumber])), (a_t_state, .inl (cA, 255, .inl f_t_state)), (a_t_kept, .inl (cA, 255, .inl f_t_kept_35))] := hD
    refine lv_aload_n hx hb dX8_costWith_38 rfl (lv_at hl 0 rfl) ?_
    refine va_get (D := (dC, dI)) (ci := 7) (C := RX8) (T := TX8) (N := 12) hx hb hts iX8_costWith_X8 hown hK hP 0 rfl rfl 1 (by decide) (hts _ (List.mem_of_getElem? (i := 2) rfl)) (fun _ h9 => h9) rfl dX8_costWith_39 ?_
    refine lv_iconst (v := 0) hx hb dX8_costWith_42 (by decide) ?_
    refine lv_iload_n hx hb dX8_costWith_43 rfl (lv_at hl 1 rfl) ?_
    refine xa_stK hx hb hK hP hD hS 1 0 rfl rfl 0 rfl (by decide) (by decide) dX8_costWith_44 (fun H locs hP hD hS => ?_)
    have hP : va_P (dC, dI) vwCl [(a_t, .inr (7, [.int 0, .ref a_t_state, .ref a_t_kept, .ref a_t_stack, .int v_t_saved, .ref a_t_text, .int v_t_textLength, .int v_t_place, .int v_t_sign, .int v_t_readLetters, .int v_t_readLength, .int v_t_readNumber])), (a_t_state, .inl (cA, 255, .inl (upd f_t_state 0 p1))), (a_t_kept, .inl (cA, 255, .inl f_t_kept_35))] H := hP
    have hD : va_D A [(a_t, .inr (7, [.int 0, .ref a_t_state, .ref a_t_kept, .ref a_t_stack, .int v_t_saved, .ref a_t_text, .int v_t_textLength, .int v_t_place, .int v_t_sign, .int v_t_readLetters, .int v_t_readLength, .int v_t_readNumber])), (a_t_state, .inl (cA, 255, .inl (upd f_t_state 0 p1))), (a_t_kept, .inl (cA, 255, .inl f_t_kept_35))] := hD
    refine lv_aload_n hx hb dX8_costWith_45 rfl (lv_at hl 0 rfl) ?_
    obtain ⟨⟨r46, f_t_state_46⟩, e46, hm⟩ := bs hm
    try dsimp only at hm
    refine mu_callVe (wr := [(a_t_kept, .inl (cA, 255, .inl f_t_kept_35))]) ⟨hx, hb, hml, hown, hts⟩ (kX8_expanded l dC dI cA a_t a_t_state a_t_kept a_t_stack a_t_text 0 v_t_saved v_t_textLength v_t_place v_t_sign v_t_readLetters v_t_readLength v_t_readNumber (upd f_t_state 0 p1) _ r46 f_t_state_46 e46) (cwV 0 hts gX8_costWith_X8_expanded rfl rfl rfl hdX8_expanded ⟨Nat.le_of_ble_eq_true rfl, Nat.le_of_ble_eq_true rfl⟩) hP hD hS hA hK [0, 1] [2] rfl rfl rfl rfl (by decide) rfl rfl rfl hl.1 rfl (Nat.le_of_ble_eq_true rfl) dX8_costWith_46 ⟨Nat.zero_le _, Nat.zero_le _⟩ (fun H locs hP hD hS => ?_)
    have hP : va_P (dC, dI) vwCl [(a_t_kept, .inl (cA, 255, .inl f_t_kept_35)), (a_t, .inr (7, [.int 0, .ref a_t_state, .ref a_t_kept, .ref a_t_stack, .int v_t_saved, .ref a_t_text, .int v_t_textLength, .int v_t_place, .int v_t_sign, .int v_t_readLetters, .int v_t_readLength, .int v_t_readNumber])), (a_t_state, .inl (cA, 255, .inl f_t_state_46))] H := hP
    have hD : va_D A [(a_t_kept, .inl (cA, 255, .inl f_t_kept_35)), (a_t, .inr (7, [.int 0, .ref a_t_state, .ref a_t_kept, .ref a_t_stack, .int v_t_saved, .ref a_t_text, .int v_t_textLength, .int v_t_place, .int v_t_sign, .int v_t_readLetters, .int v_t_readLength, .int v_t_readNumber])), (a_t_state, .inl (cA, 255, .inl f_t_state_46))] := hD
    refine lv_pop hx hb dX8_costWith_49 rfl ?_
    refine lv_aload_n hx hb dX8_costWith_50 rfl (lv_at hl 0 rfl) ?_
    obtain ⟨⟨r51, f_t_state_51⟩, e51, hm⟩ := bs hm
    try dsimp only at hm
    refine mu_callVe (wr := [(a_t_kept, .inl (cA, 255, .inl f_t_kept_35))]) ⟨hx, hb, hml, hown, hts⟩ (kX8_compressed l dC dI cA a_t a_t_state a_t_kept a_t_stack a_t_text 0 v_t_saved v_t_textLength v_t_place v_t_sign v_t_readLetters v_t_readLength v_t_readNumber f_t_state_46 _ r51 f_t_state_51 e51) (cwV 0 hts gX8_costWith_X8_compressed rfl rfl rfl hdX8_compressed ⟨Nat.le_of_ble_eq_true rfl, Nat.le_of_ble_eq_true rfl⟩) hP hD hS hA hK [1, 2] [0] rfl rfl rfl rfl (by decide) rfl rfl rfl hl.1 rfl (Nat.le_of_ble_eq_true rfl) dX8_costWith_51 ⟨Nat.zero_le _, Nat.zero_le _⟩ (fun H locs hP hD hS => ?_)
    have hP : va_P (dC, dI) vwCl [(a_t_kept, .inl (cA, 255, .inl f_t_kept_35)), (a_t, .inr (7, [.int 0, .ref a_t_state, .ref a_t_kept, .ref a_t_stack, .int v_t_saved, .ref a_t_text, .int v_t_textLength, .int v_t_place, .int v_t_sign, .int v_t_readLetters, .int v_t_readLength, .int v_t_readNumber])), (a_t_state, .inl (cA, 255, .inl f_t_state_51))] H := hP
    have hD : va_D A [(a_t_kept, .inl (cA, 255, .inl f_t_kept_35)), (a_t, .inr (7, [.int 0, .ref a_t_state, .ref a_t_kept, .ref a_t_stack, .int v_t_saved, .ref a_t_text, .int v_t_textLength, .int v_t_place, .int v_t_sign, .int v_t_readLetters, .int v_t_readLength, .int v_t_readNumber])), (a_t_state, .inl (cA, 255, .inl f_t_state_51))] := hD
    refine lv_pop hx hb dX8_costWith_54 rfl ?_
    refine lv_aload_n hx hb dX8_costWith_55 rfl (lv_at hl 0 rfl) ?_
    obtain ⟨r56, e56, hm⟩ := bs hm
    try dsimp only at hm
    refine ro_callVe ⟨hx, hb, hml, hown, hts⟩ (kX8_costOf l dC dI cA a_t a_t_state a_t_kept a_t_stack a_t_text 0 v_t_saved v_t_textLength v_t_place v_t_sign v_t_readLetters v_t_readLength v_t_readNumber f_t_state_51 r56 e56) (cwV 0 hts gX8_costWith_X8_costOf rfl rfl rfl hdX8_costOf ⟨Nat.le_of_ble_eq_true rfl, Nat.le_of_ble_eq_true rfl⟩) (hP.sub [1, 2] rfl) hK rfl rfl rfl hl.1 rfl (Nat.le_of_ble_eq_true rfl) dX8_costWith_56 ⟨Nat.zero_le _, Nat.zero_le _⟩ ?_
    refine lv_istore_n (lv' := [(2, .int r56), (0, .ref a_t), (1, .int p1)]) hx hb dX8_costWith_59 rfl hl (by decide) rfl (fun ls hl => ?_)
    refine lv_aload_n hx hb dX8_costWith_60 rfl (lv_at hl 1 rfl) ?_
    refine va_get (D := (dC, dI)) (ci := 7) (C := RX8) (T := TX8) (N := 12) hx hb hts iX8_costWith_X8 hown hK hP 1 rfl rfl 2 (by decide) (hts _ (List.mem_of_getElem? (i := 3) rfl)) (fun _ h9 => h9) rfl dX8_costWith_61 ?_
    refine lv_iconst (v := 0) hx hb dX8_costWith_64 (by decide) ?_
    refine lv_aload_n hx hb dX8_costWith_65 rfl (lv_at hl 1 rfl) ?_
    refine va_get (D := (dC, dI)) (ci := 7) (C := RX8) (T := TX8) (N := 12) hx hb hts iX8_costWith_X8 hown hK hP 1 rfl rfl 1 (by decide) (hts _ (List.mem_of_getElem? (i := 2) rfl)) (fun _ h9 => h9) rfl dX8_costWith_66 ?_
    refine lv_iconst (v := 0) hx hb dX8_costWith_69 (by decide) ?_
    obtain ⟨f_t_state_70, e70, hm⟩ := bs hm
    try dsimp only at hm
    refine mu_callSv (wr := [(a_t, .inr (7, [.int 0, .ref a_t_state, .ref a_t_kept, .ref a_t_stack, .int v_t_saved, .ref a_t_text, .int v_t_textLength, .int v_t_place, .int v_t_sign, .int v_t_readLetters, .int v_t_readLength, .int v_t_readNumber]))]) ⟨hx, hb, hml, hown, hts⟩ (kX8_copy l dC dI cA a_t_kept a_t_state 255 255 (by decide) (by decide) f_t_kept_35 f_t_state_51 0 0 _ f_t_state_70 e70) (va_cwS 4 hts gX8_costWith_X8_copy rfl rfl rfl hdX8_copy.2 ⟨Nat.le_of_ble_eq_true rfl, Nat.le_of_ble_eq_true rfl⟩) hP hD hS hA hK [0, 2] [1] rfl rfl rfl rfl (by decide) rfl hl.1 rfl (Nat.le_of_ble_eq_true rfl) dX8_costWith_70 ⟨Nat.zero_le _, Nat.zero_le _⟩ (fun H locs hP hD hS => ?_)
    have hP : va_P (dC, dI) vwCl [(a_t, .inr (7, [.int 0, .ref a_t_state, .ref a_t_kept, .ref a_t_stack, .int v_t_saved, .ref a_t_text, .int v_t_textLength, .int v_t_place, .int v_t_sign, .int v_t_readLetters, .int v_t_readLength, .int v_t_readNumber])), (a_t_kept, .inl (cA, 255, .inl f_t_kept_35)), (a_t_state, .inl (cA, 255, .inl f_t_state_70))] H := hP
    have hD : va_D A [(a_t, .inr (7, [.int 0, .ref a_t_state, .ref a_t_kept, .ref a_t_stack, .int v_t_saved, .ref a_t_text, .int v_t_textLength, .int v_t_place, .int v_t_sign, .int v_t_readLetters, .int v_t_readLength, .int v_t_readNumber])), (a_t_kept, .inl (cA, 255, .inl f_t_kept_35)), (a_t_state, .inl (cA, 255, .inl f_t_state_70))] := hD
    refine lv_iload_n hx hb dX8_costWith_73 rfl (lv_at hl 0 rfl) ?_
    cases hm
    exact mu_iret hx hb hr rfl rfl hP hD hS hK [0, 2, 1] rfl (by decide) dX8_costWith_74 hlocks
def mX8_housesFor (f_t_state : Nat → Int32) (p1 : Int32) (p2 : Int32) : Option (Int32 × Int32) :=
  (if (if (mX8_isPrefix p1 p2 1) = 0 then (1 : Int32) else 0) ≤ 0 then
    ((mX8_findName f_t_state (mX8_code p1 p2)).bind fun r35 =>
    (if r35 = (-1) then
      ((mX8_longestPrefix f_t_state (mX8_code p1 p2)).bind fun r46 =>
      ((mX8_findHouse f_t_state (mX8_shortened (mX8_code p1 p2) r46)).bind fun r65 =>
      some ((((mX8_lengthOf (mX8_code p1 p2)) - r46) + (if r65 = (-1) then (1 : Int32) else 0)), (if (mX8_isPrefix p1 p2 1) = 0 then (1 : Int32) else 0))))
    else
      some ((-1), (if (mX8_isPrefix p1 p2 1) = 0 then (1 : Int32) else 0))))
  else
    some (0, (if (mX8_isPrefix p1 p2 1) = 0 then (1 : Int32) else 0)))
abbrev rmX8_housesFor : Room := { frames := 7, cells := 0, slots := 0, locals := 148 }
abbrev wX8_housesFor (cA : ClassId) (a_t a_t_state a_t_kept a_t_stack a_t_text : Nat) (v_t_thrown v_t_saved v_t_textLength v_t_place v_t_sign v_t_readLetters v_t_readLength v_t_readNumber : Int32) (f_t_state : Nat → Int32) : va_W := [(a_t, .inr (7, [.int v_t_thrown, .ref a_t_state, .ref a_t_kept, .ref a_t_stack, .int v_t_saved, .ref a_t_text, .int v_t_textLength, .int v_t_place, .int v_t_sign, .int v_t_readLetters, .int v_t_readLength, .int v_t_readNumber])), (a_t_state, .inl (cA, 255, .inl f_t_state))]
theorem iX8_housesFor_X8 : ∀ w ∈ wsX80, w ∈ wsX8_housesFor := (fun _ h => List.mem_cons_of_mem _ (List.mem_append_right _ h))
theorem hdX8_housesFor : yX8_housesFor.cls = RX8 ∧ yX8_housesFor.cls ≠ "java/lang/invoke/MethodHandle" ∧ yX8_housesFor.cls ≠ "java/lang/invoke/VarHandle" ∧ (parseMethodDescriptor yX8_housesFor.desc).map (fun d => d.parameters.length) = some 2 := by decide +kernel
set_option maxHeartbeats 4000000 in
set_option maxRecDepth 100000 in
theorem kX8_housesFor (l : Launch) (dC : Nat → ClassId) (dI : Nat → Nat → Nat) (cA : ClassId) (a_t a_t_state a_t_kept a_t_stack a_t_text : Nat) (v_t_thrown v_t_saved v_t_textLength v_t_place v_t_sign v_t_readLetters v_t_readLength v_t_readNumber : Int32) (f_t_state : Nat → Int32) (p1 p2 : Int32) (sz : Nat) (r o_v_t_thrown : Int32) (hm : (mX8_housesFor f_t_state p1 p2) = some (r, o_v_t_thrown)) : Met l yX8_housesFor wsX8_housesFor rmX8_housesFor (mpc (dC, dI) [(cA, .int)] (wX8_housesFor cA a_t a_t_state a_t_kept a_t_stack a_t_text v_t_thrown v_t_saved v_t_textLength v_t_place v_t_sign v_t_readLetters v_t_readLength v_t_readNumber f_t_state) [.ref a_t, .int p1, .int p2] sz) (mqi (dC, dI) [(cA, .int)] (va_A (wX8_housesFor cA a_t a_t_state a_t_kept a_t_stack a_t_text v_t_thrown v_t_saved v_t_textLength v_t_place v_t_sign v_t_readLetters v_t_readLength v_t_readNumber f_t_state) sz) (wX8_housesFor cA a_t a_t_state a_t_kept a_t_stack a_t_text o_v_t_thrown v_t_saved v_t_textLength v_t_place v_t_sign v_t_readLetters v_t_readLength v_t_readNumber f_t_state) (fun x => x = r)) 0 0 (va_A (wX8_housesFor cA a_t a_t_state a_t_kept a_t_stack a_t_text v_t_thrown v_t_saved v_t_textLength v_t_place v_t_sign v_t_readLetters v_t_readLength v_t_readNumber f_t_state) sz) := by
  unfold mX8_housesFor at hm
  refine mu_ofW (Qc := fun A => mqi (dC, dI) [(cA, .int)] A (wX8_housesFor cA a_t a_t_state a_t_kept a_t_stack a_t_text o_v_t_thrown v_t_saved v_t_textLength v_t_place v_t_sign v_t_readLetters v_t_readLength v_t_readNumber f_t_state) (fun x => x = r)) (cc := cX8_housesFor) (maxL := 5) (ret := (some .int)) (own := RX8) (by decide) rfl rfl (Nat.le_of_ble_eq_true rfl) ?_
  intro p e s m args below meth c hx hb hr hts hown hlocks hml hin A hA hP hD hS hK ls hl
  have hl : lv_has ls 5 [(0, .ref a_t), (1, .int p1), (2, .int p2)] := hl
  have hP : va_P (dC, dI) vwCl [(a_t, .inr (7, [.int v_t_thrown, .ref a_t_state, .ref a_t_kept, .ref a_t_stack, .int v_t_saved, .ref a_t_text, .int v_t_textLength, .int v_t_place, .int v_t_sign, .int v_t_readLetters, .int v_t_readLength, .int v_t_readNumber])), (a_t_state, .inl (cA, 255, .inl f_t_state))] s.heap := hP
  have hD : va_D A [(a_t, .inr (7, [.int v_t_thrown, .ref a_t_state, .ref a_t_kept, .ref a_t_stack, .int v_t_saved, .ref a_t_text, .int v_t_textLength, .int v_t_place, .int v_t_sign, .int v_t_readLetters, .int v_t_readLength, .int v_t_readNumber])), (a_t_state, .inl (cA, 255, .inl f_t_state))] := hD
  refine lv_aload_n hx hb dX8_housesFor_0 rfl (lv_at hl 0 rfl) ?_
  refine lv_iload_n hx hb dX8_housesFor_1 rfl (lv_at hl 1 rfl) ?_
  refine lv_iload_n hx hb dX8_housesFor_2 rfl (lv_at hl 2 rfl) ?_
  refine lv_iconst (v := 1) hx hb dX8_housesFor_3 (by decide) ?_
  refine sp_callSz ⟨hx, hb, hml, hown, hts⟩ (kX8_isPrefix l p1 p2 1) (va_cwS 3 hts gX8_housesFor_X8_isPrefix rfl rfl rfl hdX8_isPrefix.2 ⟨Nat.le_of_ble_eq_true rfl, Nat.le_of_ble_eq_true rfl⟩) rfl hl.1 rfl (Nat.le_of_ble_eq_true rfl) dX8_housesFor_4 ⟨Nat.zero_le _, Nat.zero_le _⟩ (fun hb4 => ?_)
  refine lv_if_eq (tgt := 14) hx hb dX8_housesFor_7 (by decide) (fun c7 => ?_) (fun c7 => ?_)
  · try simp only [if_pos c7] at hm
    refine lv_iconst (v := 1) hx hb dX8_housesFor_14 (by decide) ?_
    refine va_put (D := (dC, dI)) (ci := 7) (C := RX8) (T := TX8) (N := 12) (ty := .int) hx hb hts iX8_housesFor_X8 tyX8 tyX8_ok nmX8 hown hK hP hD hS 0 rfl rfl 0 (by decide) (hts _ (List.mem_of_getElem? (i := 1) rfl)) (fun _ h9 => h9) rfl (by decide +kernel) rfl rfl (Nat.le_of_ble_eq_true rfl) dX8_housesFor_15 (fun H locs hP hD hS => ?_)
    have hP : va_P (dC, dI) vwCl [(a_t, .inr (7, [.int 1, .ref a_t_state, .ref a_t_kept, .ref a_t_stack, .int v_t_saved, .ref a_t_text, .int v_t_textLength, .int v_t_place, .int v_t_sign, .int v_t_readLetters, .int v_t_readLength, .int v_t_readNumber])), (a_t_state, .inl (cA, 255, .inl f_t_state))] H := hP
    have hD : va_D A [(a_t, .inr (7, [.int 1, .ref a_t_state, .ref a_t_kept, .ref a_t_stack, .int v_t_saved, .ref a_t_text, .int v_t_textLength, .int v_t_place, .int v_t_sign, .int v_t_readLetters, .int v_t_readLength, .int v_t_readNumber])), (a_t_state, .inl (cA, 255, .inl f_t_state))] := hD
    refine lv_aload_n hx hb dX8_housesFor_18 rfl (lv_at hl 0 rfl) ?_
    refine va_get (D := (dC, dI)) (ci := 7) (C := RX8) (T := TX8) (N := 12) hx hb hts iX8_housesFor_X8 hown hK hP 0 rfl rfl 0 (by decide) (hts _ (List.mem_of_getElem? (i := 1) rfl)) (fun _ h9 => h9) rfl dX8_housesFor_19 ?_
    refine lv_if_le (tgt := 27) hx hb dX8_housesFor_22 (by decide) (fun c22 => absurd c22 (by decide)) (fun c22 => ?_)
    try rw [if_neg (show ¬ ((1 : Int32) ≤ 0) by decide)] at hm
    refine lv_iconst (v := 0) hx hb dX8_housesFor_25 (by decide) ?_
    cases hm
    exact mu_iret hx hb hr rfl rfl hP hD hS hK [0, 1] rfl (by decide) dX8_housesFor_26 hlocks
  · try simp only [if_neg c7] at hm
    refine lv_iconst (v := 0) hx hb dX8_housesFor_10 (by decide) ?_
    refine lv_goto (tgt := 15) hx hb dX8_housesFor_11 (by decide) ?_
    refine va_put (D := (dC, dI)) (ci := 7) (C := RX8) (T := TX8) (N := 12) (ty := .int) hx hb hts iX8_housesFor_X8 tyX8 tyX8_ok nmX8 hown hK hP hD hS 0 rfl rfl 0 (by decide) (hts _ (List.mem_of_getElem? (i := 1) rfl)) (fun _ h9 => h9) rfl (by decide +kernel) rfl rfl (Nat.le_of_ble_eq_true rfl) dX8_housesFor_15 (fun H locs hP hD hS => ?_)
    have hP : va_P (dC, dI) vwCl [(a_t, .inr (7, [.int 0, .ref a_t_state, .ref a_t_kept, .ref a_t_stack, .int v_t_saved, .ref a_t_text, .int v_t_textLength, .int v_t_place, .int v_t_sign, .int v_t_readLetters, .int v_t_readLength, .int v_t_readNumber])), (a_t_state, .inl (cA, 255, .inl f_t_state))] H := hP
    have hD : va_D A [(a_t, .inr (7, [.int 0, .ref a_t_state, .ref a_t_kept, .ref a_t_stack, .int v_t_saved, .ref a_t_text, .int v_t_textLength, .int v_t_place, .int v_t_sign, .int v_t_readLetters, .int v_t_readLength, .int v_t_readNumber])), (a_t_state, .inl (cA, 255, .inl f_t_state))] := hD
    refine lv_aload_n hx hb dX8_housesFor_18 rfl (lv_at hl 0 rfl) ?_
    refine va_get (D := (dC, dI)) (ci := 7) (C := RX8) (T := TX8) (N := 12) hx hb hts iX8_housesFor_X8 hown hK hP 0 rfl rfl 0 (by decide) (hts _ (List.mem_of_getElem? (i := 1) rfl)) (fun _ h9 => h9) rfl dX8_housesFor_19 ?_
    refine lv_if_le (tgt := 27) hx hb dX8_housesFor_22 (by decide) (fun c22 => ?_) (fun c22 => absurd c22 (by decide))
    try rw [if_pos (show (0 : Int32) ≤ 0 by decide)] at hm
    refine lv_iload_n hx hb dX8_housesFor_27 rfl (lv_at hl 1 rfl) ?_
    refine lv_iload_n hx hb dX8_housesFor_28 rfl (lv_at hl 2 rfl) ?_
    refine sp_callSe ⟨hx, hb, hml, hown, hts⟩ (kX8_code l p1 p2) (va_cwS 2 hts gX8_housesFor_X8_code rfl rfl rfl hdX8_code.2 ⟨Nat.le_of_ble_eq_true rfl, Nat.le_of_ble_eq_true rfl⟩) rfl hl.1 rfl (Nat.le_of_ble_eq_true rfl) dX8_housesFor_29 ⟨Nat.zero_le _, Nat.zero_le _⟩ ?_
    refine lv_istore_n (lv' := [(3, .int (mX8_code p1 p2)), (0, .ref a_t), (1, .int p1), (2, .int p2)]) hx hb dX8_housesFor_32 rfl hl (by decide) rfl (fun ls hl => ?_)
    refine lv_aload_n hx hb dX8_housesFor_33 rfl (lv_at hl 1 rfl) ?_
    refine lv_iload_n hx hb dX8_housesFor_34 rfl (lv_at hl 0 rfl) ?_
    obtain ⟨r35, e35, hm⟩ := bs hm
    try dsimp only at hm
    refine ro_callVe ⟨hx, hb, hml, hown, hts⟩ (kX8_findName l dC dI cA a_t a_t_state a_t_kept a_t_stack a_t_text 0 v_t_saved v_t_textLength v_t_place v_t_sign v_t_readLetters v_t_readLength v_t_readNumber f_t_state (mX8_code p1 p2) r35 e35) (cwV 1 hts gX8_housesFor_X8_findName rfl rfl rfl hdX8_findName ⟨Nat.le_of_ble_eq_true rfl, Nat.le_of_ble_eq_true rfl⟩) (hP.sub [0, 1] rfl) hK rfl rfl rfl hl.1 rfl (Nat.le_of_ble_eq_true rfl) dX8_housesFor_35 ⟨Nat.zero_le _, Nat.zero_le _⟩ ?_
    refine lv_iconst (v := (-1)) hx hb dX8_housesFor_38 (by decide) ?_
    refine lv_icmp_eq (tgt := 44) hx hb dX8_housesFor_39 (by decide) (fun c39 => ?_) (fun c39 => ?_)
    · rw [if_pos c39] at hm
      refine lv_aload_n hx hb dX8_housesFor_44 rfl (lv_at hl 1 rfl) ?_
      refine lv_iload_n hx hb dX8_housesFor_45 rfl (lv_at hl 0 rfl) ?_
      obtain ⟨r46, e46, hm⟩ := bs hm
      try dsimp only at hm
      refine ro_callVe ⟨hx, hb, hml, hown, hts⟩ (kX8_longestPrefix l dC dI cA a_t a_t_state a_t_kept a_t_stack a_t_text 0 v_t_saved v_t_textLength v_t_place v_t_sign v_t_readLetters v_t_readLength v_t_readNumber f_t_state (mX8_code p1 p2) r46 e46) (cwV 1 hts gX8_housesFor_X8_longestPrefix rfl rfl rfl hdX8_longestPrefix ⟨Nat.le_of_ble_eq_true rfl, Nat.le_of_ble_eq_true rfl⟩) (hP.sub [0, 1] rfl) hK rfl rfl rfl hl.1 rfl (Nat.le_of_ble_eq_true rfl) dX8_housesFor_46 ⟨Nat.zero_le _, Nat.zero_le _⟩ ?_
      refine lv_istore (lv' := [(4, .int r46), (3, .int (mX8_code p1 p2)), (0, .ref a_t), (1, .int p1), (2, .int p2)]) hx hb dX8_housesFor_49 hl (by decide) rfl (fun ls hl => ?_)
      refine lv_iload_n hx hb dX8_housesFor_51 rfl (lv_at hl 1 rfl) ?_
      refine sp_callSe ⟨hx, hb, hml, hown, hts⟩ (kX8_lengthOf l (mX8_code p1 p2)) (va_cwS 1 hts gX8_housesFor_X8_lengthOf rfl rfl rfl hdX8_lengthOf.2 ⟨Nat.le_of_ble_eq_true rfl, Nat.le_of_ble_eq_true rfl⟩) rfl hl.1 rfl (Nat.le_of_ble_eq_true rfl) dX8_housesFor_52 ⟨Nat.zero_le _, Nat.zero_le _⟩ ?_
      refine lv_iload hx hb dX8_housesFor_55 (lv_at hl 0 rfl) ?_
      refine lv_isub hx hb dX8_housesFor_57 ?_
      refine lv_aload_n hx hb dX8_housesFor_58 rfl (lv_at hl 2 rfl) ?_
      refine lv_iload_n hx hb dX8_housesFor_59 rfl (lv_at hl 1 rfl) ?_
      refine lv_iload hx hb dX8_housesFor_60 (lv_at hl 0 rfl) ?_
      refine sp_callSe ⟨hx, hb, hml, hown, hts⟩ (kX8_shortened l (mX8_code p1 p2) r46) (va_cwS 2 hts gX8_housesFor_X8_shortened rfl rfl rfl hdX8_shortened.2 ⟨Nat.le_of_ble_eq_true rfl, Nat.le_of_ble_eq_true rfl⟩) rfl hl.1 rfl (Nat.le_of_ble_eq_true rfl) dX8_housesFor_62 ⟨Nat.zero_le _, Nat.zero_le _⟩ ?_
      obtain ⟨r65, e65, hm⟩ := bs hm
      try dsimp only at hm
      refine ro_callVe ⟨hx, hb, hml, hown, hts⟩ (kX8_findHouse l dC dI cA a_t a_t_state a_t_kept a_t_stack a_t_text 0 v_t_saved v_t_textLength v_t_place v_t_sign v_t_readLetters v_t_readLength v_t_readNumber f_t_state (mX8_shortened (mX8_code p1 p2) r46) r65 e65) (cwV 1 hts gX8_housesFor_X8_findHouse rfl rfl rfl hdX8_findHouse ⟨Nat.le_of_ble_eq_true rfl, Nat.le_of_ble_eq_true rfl⟩) (hP.sub [0, 1] rfl) hK rfl rfl rfl hl.1 rfl (Nat.le_of_ble_eq_true rfl) dX8_housesFor_65 ⟨Nat.zero_le _, Nat.zero_le _⟩ ?_
      refine lv_iconst (v := (-1)) hx hb dX8_housesFor_68 (by decide) ?_
      refine lv_icmp_ne (tgt := 76) hx hb dX8_housesFor_69 (by decide) (fun c69 => ?_) (fun c69 => ?_)
      · try simp only [if_neg c69] at hm
        refine lv_iconst (v := 0) hx hb dX8_housesFor_76 (by decide) ?_
        refine lv_iadd hx hb dX8_housesFor_77 ?_
        cases hm
        exact mu_iret hx hb hr rfl rfl hP hD hS hK [0, 1] rfl (by decide) dX8_housesFor_78 hlocks
      · try simp only [if_pos c69] at hm
        refine lv_iconst (v := 1) hx hb dX8_housesFor_72 (by decide) ?_
        refine lv_goto (tgt := 77) hx hb dX8_housesFor_73 (by decide) ?_
        refine lv_iadd hx hb dX8_housesFor_77 ?_
        cases hm
        exact mu_iret hx hb hr rfl rfl hP hD hS hK [0, 1] rfl (by decide) dX8_housesFor_78 hlocks
    · rw [if_neg c39] at hm
      refine lv_iconst (v := (-1)) hx hb dX8_housesFor_42 (by decide) ?_
      cases hm
      exact mu_iret hx hb hr rfl rfl hP hD hS hK [0, 1] rfl (by decide) dX8_housesFor_43 hlocks
def mX8_type (v_t_textLength : Int32) (f_t_text : Nat → Int32) (p1 : Int32) : Option (Int32 × Int32 × Int32 × (Nat → Int32)) :=
  (if (if (mX8_within p1 0 127) = 0 then 1 else (if v_t_textLength = 120 then (2 : Int32) else 0)) ≤ 0 then
    ((wrA 120 f_t_text v_t_textLength p1).bind fun f_t_text_50 =>
    some ((v_t_textLength + 1), (if (mX8_within p1 0 127) = 0 then 1 else (if v_t_textLength = 120 then (2 : Int32) else 0)), (v_t_textLength + 1), f_t_text_50))
  else
    some (0, (if (mX8_within p1 0 127) = 0 then 1 else (if v_t_textLength = 120 then (2 : Int32) else 0)), v_t_textLength, f_t_text))
abbrev rmX8_type : Room := { frames := 1, cells := 0, slots := 0, locals := 22 }
abbrev wX8_type (cA : ClassId) (a_t a_t_state a_t_kept a_t_stack a_t_text : Nat) (v_t_thrown v_t_saved v_t_textLength v_t_place v_t_sign v_t_readLetters v_t_readLength v_t_readNumber : Int32) (f_t_text : Nat → Int32) : va_W := [(a_t, .inr (7, [.int v_t_thrown, .ref a_t_state, .ref a_t_kept, .ref a_t_stack, .int v_t_saved, .ref a_t_text, .int v_t_textLength, .int v_t_place, .int v_t_sign, .int v_t_readLetters, .int v_t_readLength, .int v_t_readNumber])), (a_t_text, .inl (cA, 120, .inl f_t_text))]
theorem iX8_type_X8 : ∀ w ∈ wsX80, w ∈ wsX8_type := (fun _ h => List.mem_cons_of_mem _ (List.mem_append_right _ h))
theorem hdX8_type : yX8_type.cls = RX8 ∧ yX8_type.cls ≠ "java/lang/invoke/MethodHandle" ∧ yX8_type.cls ≠ "java/lang/invoke/VarHandle" ∧ (parseMethodDescriptor yX8_type.desc).map (fun d => d.parameters.length) = some 1 := by decide +kernel
set_option maxHeartbeats 4000000 in
set_option maxRecDepth 100000 in
theorem kX8_type (l : Launch) (dC : Nat → ClassId) (dI : Nat → Nat → Nat) (cA : ClassId) (a_t a_t_state a_t_kept a_t_stack a_t_text : Nat) (v_t_thrown v_t_saved v_t_textLength v_t_place v_t_sign v_t_readLetters v_t_readLength v_t_readNumber : Int32) (f_t_text : Nat → Int32) (p1 : Int32) (sz : Nat) (r o_v_t_thrown o_v_t_textLength : Int32) (o_f_t_text : Nat → Int32) (hm : (mX8_type v_t_textLength f_t_text p1) = some (r, o_v_t_thrown, o_v_t_textLength, o_f_t_text)) : Met l yX8_type wsX8_type rmX8_type (mpc (dC, dI) [(cA, .int)] (wX8_type cA a_t a_t_state a_t_kept a_t_stack a_t_text v_t_thrown v_t_saved v_t_textLength v_t_place v_t_sign v_t_readLetters v_t_readLength v_t_readNumber f_t_text) [.ref a_t, .int p1] sz) (mqi (dC, dI) [(cA, .int)] (va_A (wX8_type cA a_t a_t_state a_t_kept a_t_stack a_t_text v_t_thrown v_t_saved v_t_textLength v_t_place v_t_sign v_t_readLetters v_t_readLength v_t_readNumber f_t_text) sz) (wX8_type cA a_t a_t_state a_t_kept a_t_stack a_t_text o_v_t_thrown v_t_saved o_v_t_textLength v_t_place v_t_sign v_t_readLetters v_t_readLength v_t_readNumber o_f_t_text) (fun x => x = r)) 0 0 (va_A (wX8_type cA a_t a_t_state a_t_kept a_t_stack a_t_text v_t_thrown v_t_saved v_t_textLength v_t_place v_t_sign v_t_readLetters v_t_readLength v_t_readNumber f_t_text) sz) := by
  unfold mX8_type at hm
  refine mu_ofW (Qc := fun A => mqi (dC, dI) [(cA, .int)] A (wX8_type cA a_t a_t_state a_t_kept a_t_stack a_t_text o_v_t_thrown v_t_saved o_v_t_textLength v_t_place v_t_sign v_t_readLetters v_t_readLength v_t_readNumber o_f_t_text) (fun x => x = r)) (cc := cX8_type) (maxL := 2) (ret := (some .int)) (own := RX8) (by decide) rfl rfl (Nat.le_of_ble_eq_true rfl) ?_
  intro p e s m args below meth c hx hb hr hts hown hlocks hml hin A hA hP hD hS hK ls hl
  have hl : lv_has ls 2 [(0, .ref a_t), (1, .int p1)] := hl
  have hP : va_P (dC, dI) vwCl [(a_t, .inr (7, [.int v_t_thrown, .ref a_t_state, .ref a_t_kept, .ref a_t_stack, .int v_t_saved, .ref a_t_text, .int v_t_textLength, .int v_t_place, .int v_t_sign, .int v_t_readLetters, .int v_t_readLength, .int v_t_readNumber])), (a_t_text, .inl (cA, 120, .inl f_t_text))] s.heap := hP
  have hD : va_D A [(a_t, .inr (7, [.int v_t_thrown, .ref a_t_state, .ref a_t_kept, .ref a_t_stack, .int v_t_saved, .ref a_t_text, .int v_t_textLength, .int v_t_place, .int v_t_sign, .int v_t_readLetters, .int v_t_readLength, .int v_t_readNumber])), (a_t_text, .inl (cA, 120, .inl f_t_text))] := hD
  refine lv_aload_n hx hb dX8_type_0 rfl (lv_at hl 0 rfl) ?_
  refine lv_iload_n hx hb dX8_type_1 rfl (lv_at hl 1 rfl) ?_
  refine lv_iconst (v := 0) hx hb dX8_type_2 (by decide) ?_
  refine lv_bipush (v := 127) hx hb dX8_type_3 (by decide) ?_
  refine sp_callSz ⟨hx, hb, hml, hown, hts⟩ (kX8_within l p1 0 127) (va_cwS 3 hts gX8_type_X8_within rfl rfl rfl hdX8_within.2 ⟨Nat.le_of_ble_eq_true rfl, Nat.le_of_ble_eq_true rfl⟩) rfl hl.1 rfl (Nat.le_of_ble_eq_true rfl) dX8_type_5 ⟨Nat.zero_le _, Nat.zero_le _⟩ (fun hb5 => ?_)
  refine lv_if_ne (tgt := 15) hx hb dX8_type_8 (by decide) (fun c8 => ?_) (fun c8 => ?_)
  · try simp only [if_neg c8] at hm
    refine lv_aload_n hx hb dX8_type_15 rfl (lv_at hl 0 rfl) ?_
    refine va_get (D := (dC, dI)) (ci := 7) (C := RX8) (T := TX8) (N := 12) hx hb hts iX8_type_X8 hown hK hP 0 rfl rfl 6 (by decide) (hts _ (List.mem_of_getElem? (i := 1) rfl)) (fun _ h9 => h9) rfl dX8_type_16 ?_
    refine lv_bipush (v := 120) hx hb dX8_type_19 (by decide) ?_
    refine lv_icmp_ne (tgt := 28) hx hb dX8_type_21 (by decide) (fun c21 => ?_) (fun c21 => ?_)
    · try simp only [if_neg c21] at hm
      refine lv_iconst (v := 0) hx hb dX8_type_28 (by decide) ?_
      refine va_put (D := (dC, dI)) (ci := 7) (C := RX8) (T := TX8) (N := 12) (ty := .int) hx hb hts iX8_type_X8 tyX8 tyX8_ok nmX8 hown hK hP hD hS 0 rfl rfl 0 (by decide) (hts _ (List.mem_of_getElem? (i := 2) rfl)) (fun _ h9 => h9) rfl (by decide +kernel) rfl rfl (Nat.le_of_ble_eq_true rfl) dX8_type_29 (fun H locs hP hD hS => ?_)
      have hP : va_P (dC, dI) vwCl [(a_t, .inr (7, [.int 0, .ref a_t_state, .ref a_t_kept, .ref a_t_stack, .int v_t_saved, .ref a_t_text, .int v_t_textLength, .int v_t_place, .int v_t_sign, .int v_t_readLetters, .int v_t_readLength, .int v_t_readNumber])), (a_t_text, .inl (cA, 120, .inl f_t_text))] H := hP
      have hD : va_D A [(a_t, .inr (7, [.int 0, .ref a_t_state, .ref a_t_kept, .ref a_t_stack, .int v_t_saved, .ref a_t_text, .int v_t_textLength, .int v_t_place, .int v_t_sign, .int v_t_readLetters, .int v_t_readLength, .int v_t_readNumber])), (a_t_text, .inl (cA, 120, .inl f_t_text))] := hD
      refine lv_aload_n hx hb dX8_type_32 rfl (lv_at hl 0 rfl) ?_
      refine va_get (D := (dC, dI)) (ci := 7) (C := RX8) (T := TX8) (N := 12) hx hb hts iX8_type_X8 hown hK hP 0 rfl rfl 0 (by decide) (hts _ (List.mem_of_getElem? (i := 2) rfl)) (fun _ h9 => h9) rfl dX8_type_33 ?_
      refine lv_if_le (tgt := 41) hx hb dX8_type_36 (by decide) (fun c36 => ?_) (fun c36 => absurd c36 (by decide))
      try rw [if_pos (show (0 : Int32) ≤ 0 by decide)] at hm
      refine lv_aload_n hx hb dX8_type_41 rfl (lv_at hl 0 rfl) ?_
      refine va_get (D := (dC, dI)) (ci := 7) (C := RX8) (T := TX8) (N := 12) hx hb hts iX8_type_X8 hown hK hP 0 rfl rfl 5 (by decide) (hts _ (List.mem_of_getElem? (i := 3) rfl)) (fun _ h9 => h9) rfl dX8_type_42 ?_
      refine lv_aload_n hx hb dX8_type_45 rfl (lv_at hl 0 rfl) ?_
      refine va_get (D := (dC, dI)) (ci := 7) (C := RX8) (T := TX8) (N := 12) hx hb hts iX8_type_X8 hown hK hP 0 rfl rfl 6 (by decide) (hts _ (List.mem_of_getElem? (i := 1) rfl)) (fun _ h9 => h9) rfl dX8_type_46 ?_
      refine lv_iload_n hx hb dX8_type_49 rfl (lv_at hl 1 rfl) ?_
      obtain ⟨f_t_text_50, e50, hm⟩ := bs hm
      try dsimp only at hm
      refine xa_stO hx hb hK hP hD hS 1 0 rfl rfl e50 dX8_type_50 (fun H locs hP hD hS => ?_)
      have hP : va_P (dC, dI) vwCl [(a_t, .inr (7, [.int 0, .ref a_t_state, .ref a_t_kept, .ref a_t_stack, .int v_t_saved, .ref a_t_text, .int v_t_textLength, .int v_t_place, .int v_t_sign, .int v_t_readLetters, .int v_t_readLength, .int v_t_readNumber])), (a_t_text, .inl (cA, 120, .inl f_t_text_50))] H := hP
      have hD : va_D A [(a_t, .inr (7, [.int 0, .ref a_t_state, .ref a_t_kept, .ref a_t_stack, .int v_t_saved, .ref a_t_text, .int v_t_textLength, .int v_t_place, .int v_t_sign, .int v_t_readLetters, .int v_t_readLength, .int v_t_readNumber])), (a_t_text, .inl (cA, 120, .inl f_t_text_50))] := hD
      refine lv_aload_n hx hb dX8_type_51 rfl (lv_at hl 0 rfl) ?_
      refine lv_dup hx hb dX8_type_52 rfl ?_
      refine va_get (D := (dC, dI)) (ci := 7) (C := RX8) (T := TX8) (N := 12) hx hb hts iX8_type_X8 hown hK hP 0 rfl rfl 6 (by decide) (hts _ (List.mem_of_getElem? (i := 1) rfl)) (fun _ h9 => h9) rfl dX8_type_53 ?_
      refine lv_iconst (v := 1) hx hb dX8_type_56 (by decide) ?_
      refine lv_iadd hx hb dX8_type_57 ?_
      refine va_put (D := (dC, dI)) (ci := 7) (C := RX8) (T := TX8) (N := 12) (ty := .int) hx hb hts iX8_type_X8 tyX8 tyX8_ok nmX8 hown hK hP hD hS 0 rfl rfl 6 (by decide) (hts _ (List.mem_of_getElem? (i := 1) rfl)) (fun _ h9 => h9) rfl (by decide +kernel) rfl rfl (Nat.le_of_ble_eq_true rfl) dX8_type_58 (fun H locs hP hD hS => ?_)
      have hP : va_P (dC, dI) vwCl [(a_t, .inr (7, [.int 0, .ref a_t_state, .ref a_t_kept, .ref a_t_stack, .int v_t_saved, .ref a_t_text, .int (v_t_textLength + 1), .int v_t_place, .int v_t_sign, .int v_t_readLetters, .int v_t_readLength, .int v_t_readNumber])), (a_t_text, .inl (cA, 120, .inl f_t_text_50))] H := hP
      have hD : va_D A [(a_t, .inr (7, [.int 0, .ref a_t_state, .ref a_t_kept, .ref a_t_stack, .int v_t_saved, .ref a_t_text, .int (v_t_textLength + 1), .int v_t_place, .int v_t_sign, .int v_t_readLetters, .int v_t_readLength, .int v_t_readNumber])), (a_t_text, .inl (cA, 120, .inl f_t_text_50))] := hD
      refine lv_aload_n hx hb dX8_type_61 rfl (lv_at hl 0 rfl) ?_
      refine va_get (D := (dC, dI)) (ci := 7) (C := RX8) (T := TX8) (N := 12) hx hb hts iX8_type_X8 hown hK hP 0 rfl rfl 6 (by decide) (hts _ (List.mem_of_getElem? (i := 1) rfl)) (fun _ h9 => h9) rfl dX8_type_62 ?_
      cases hm
      exact mu_iret hx hb hr rfl rfl hP hD hS hK [0, 1] rfl (by decide) dX8_type_65 hlocks
    · try simp only [if_pos c21] at hm
      refine lv_iconst (v := 2) hx hb dX8_type_24 (by decide) ?_
      refine lv_goto (tgt := 29) hx hb dX8_type_25 (by decide) ?_
      refine va_put (D := (dC, dI)) (ci := 7) (C := RX8) (T := TX8) (N := 12) (ty := .int) hx hb hts iX8_type_X8 tyX8 tyX8_ok nmX8 hown hK hP hD hS 0 rfl rfl 0 (by decide) (hts _ (List.mem_of_getElem? (i := 2) rfl)) (fun _ h9 => h9) rfl (by decide +kernel) rfl rfl (Nat.le_of_ble_eq_true rfl) dX8_type_29 (fun H locs hP hD hS => ?_)
      have hP : va_P (dC, dI) vwCl [(a_t, .inr (7, [.int 2, .ref a_t_state, .ref a_t_kept, .ref a_t_stack, .int v_t_saved, .ref a_t_text, .int v_t_textLength, .int v_t_place, .int v_t_sign, .int v_t_readLetters, .int v_t_readLength, .int v_t_readNumber])), (a_t_text, .inl (cA, 120, .inl f_t_text))] H := hP
      have hD : va_D A [(a_t, .inr (7, [.int 2, .ref a_t_state, .ref a_t_kept, .ref a_t_stack, .int v_t_saved, .ref a_t_text, .int v_t_textLength, .int v_t_place, .int v_t_sign, .int v_t_readLetters, .int v_t_readLength, .int v_t_readNumber])), (a_t_text, .inl (cA, 120, .inl f_t_text))] := hD
      refine lv_aload_n hx hb dX8_type_32 rfl (lv_at hl 0 rfl) ?_
      refine va_get (D := (dC, dI)) (ci := 7) (C := RX8) (T := TX8) (N := 12) hx hb hts iX8_type_X8 hown hK hP 0 rfl rfl 0 (by decide) (hts _ (List.mem_of_getElem? (i := 2) rfl)) (fun _ h9 => h9) rfl dX8_type_33 ?_
      refine lv_if_le (tgt := 41) hx hb dX8_type_36 (by decide) (fun c36 => absurd c36 (by decide)) (fun c36 => ?_)
      try rw [if_neg (show ¬ ((2 : Int32) ≤ 0) by decide)] at hm
      refine lv_iconst (v := 0) hx hb dX8_type_39 (by decide) ?_
      cases hm
      exact mu_iret hx hb hr rfl rfl hP hD hS hK [0, 1] rfl (by decide) dX8_type_40 hlocks
  · try simp only [if_pos c8] at hm
    refine lv_iconst (v := 1) hx hb dX8_type_11 (by decide) ?_
    refine lv_goto (tgt := 29) hx hb dX8_type_12 (by decide) ?_
    refine va_put (D := (dC, dI)) (ci := 7) (C := RX8) (T := TX8) (N := 12) (ty := .int) hx hb hts iX8_type_X8 tyX8 tyX8_ok nmX8 hown hK hP hD hS 0 rfl rfl 0 (by decide) (hts _ (List.mem_of_getElem? (i := 2) rfl)) (fun _ h9 => h9) rfl (by decide +kernel) rfl rfl (Nat.le_of_ble_eq_true rfl) dX8_type_29 (fun H locs hP hD hS => ?_)
    have hP : va_P (dC, dI) vwCl [(a_t, .inr (7, [.int 1, .ref a_t_state, .ref a_t_kept, .ref a_t_stack, .int v_t_saved, .ref a_t_text, .int v_t_textLength, .int v_t_place, .int v_t_sign, .int v_t_readLetters, .int v_t_readLength, .int v_t_readNumber])), (a_t_text, .inl (cA, 120, .inl f_t_text))] H := hP
    have hD : va_D A [(a_t, .inr (7, [.int 1, .ref a_t_state, .ref a_t_kept, .ref a_t_stack, .int v_t_saved, .ref a_t_text, .int v_t_textLength, .int v_t_place, .int v_t_sign, .int v_t_readLetters, .int v_t_readLength, .int v_t_readNumber])), (a_t_text, .inl (cA, 120, .inl f_t_text))] := hD
    refine lv_aload_n hx hb dX8_type_32 rfl (lv_at hl 0 rfl) ?_
    refine va_get (D := (dC, dI)) (ci := 7) (C := RX8) (T := TX8) (N := 12) hx hb hts iX8_type_X8 hown hK hP 0 rfl rfl 0 (by decide) (hts _ (List.mem_of_getElem? (i := 2) rfl)) (fun _ h9 => h9) rfl dX8_type_33 ?_
    refine lv_if_le (tgt := 41) hx hb dX8_type_36 (by decide) (fun c36 => absurd c36 (by decide)) (fun c36 => ?_)
    try rw [if_neg (show ¬ ((1 : Int32) ≤ 0) by decide)] at hm
    refine lv_iconst (v := 0) hx hb dX8_type_39 (by decide) ?_
    cases hm
    exact mu_iret hx hb hr rfl rfl hP hD hS hK [0, 1] rfl (by decide) dX8_type_40 hlocks
def mX8_clearCommands (v_t_textLength : Int32) : Option (Int32 × Int32 × Int32) :=
  some (v_t_textLength, 0, 0)
abbrev rmX8_clearCommands : Room := { frames := 0, cells := 0, slots := 0, locals := 0 }
abbrev wX8_clearCommands (cA : ClassId) (a_t a_t_state a_t_kept a_t_stack a_t_text : Nat) (v_t_thrown v_t_saved v_t_textLength v_t_place v_t_sign v_t_readLetters v_t_readLength v_t_readNumber : Int32) : va_W := [(a_t, .inr (7, [.int v_t_thrown, .ref a_t_state, .ref a_t_kept, .ref a_t_stack, .int v_t_saved, .ref a_t_text, .int v_t_textLength, .int v_t_place, .int v_t_sign, .int v_t_readLetters, .int v_t_readLength, .int v_t_readNumber]))]
theorem iX8_clearCommands_X8 : ∀ w ∈ wsX80, w ∈ wsX8_clearCommands := (fun _ h => List.mem_cons_of_mem _ (List.mem_append_right _ h))
theorem hdX8_clearCommands : yX8_clearCommands.cls = RX8 ∧ yX8_clearCommands.cls ≠ "java/lang/invoke/MethodHandle" ∧ yX8_clearCommands.cls ≠ "java/lang/invoke/VarHandle" ∧ (parseMethodDescriptor yX8_clearCommands.desc).map (fun d => d.parameters.length) = some 0 := by decide +kernel
set_option maxHeartbeats 4000000 in
set_option maxRecDepth 100000 in
theorem kX8_clearCommands (l : Launch) (dC : Nat → ClassId) (dI : Nat → Nat → Nat) (cA : ClassId) (a_t a_t_state a_t_kept a_t_stack a_t_text : Nat) (v_t_thrown v_t_saved v_t_textLength v_t_place v_t_sign v_t_readLetters v_t_readLength v_t_readNumber : Int32) (sz : Nat) (r o_v_t_thrown o_v_t_textLength : Int32) (hm : (mX8_clearCommands v_t_textLength) = some (r, o_v_t_thrown, o_v_t_textLength)) : Met l yX8_clearCommands wsX8_clearCommands rmX8_clearCommands (mpc (dC, dI) [(cA, .int)] (wX8_clearCommands cA a_t a_t_state a_t_kept a_t_stack a_t_text v_t_thrown v_t_saved v_t_textLength v_t_place v_t_sign v_t_readLetters v_t_readLength v_t_readNumber) [.ref a_t] sz) (mqi (dC, dI) [(cA, .int)] (va_A (wX8_clearCommands cA a_t a_t_state a_t_kept a_t_stack a_t_text v_t_thrown v_t_saved v_t_textLength v_t_place v_t_sign v_t_readLetters v_t_readLength v_t_readNumber) sz) (wX8_clearCommands cA a_t a_t_state a_t_kept a_t_stack a_t_text o_v_t_thrown v_t_saved o_v_t_textLength v_t_place v_t_sign v_t_readLetters v_t_readLength v_t_readNumber) (fun x => x = r)) 0 0 (va_A (wX8_clearCommands cA a_t a_t_state a_t_kept a_t_stack a_t_text v_t_thrown v_t_saved v_t_textLength v_t_place v_t_sign v_t_readLetters v_t_readLength v_t_readNumber) sz) := by
  unfold mX8_clearCommands at hm
  refine mu_ofW (Qc := fun A => mqi (dC, dI) [(cA, .int)] A (wX8_clearCommands cA a_t a_t_state a_t_kept a_t_stack a_t_text o_v_t_thrown v_t_saved o_v_t_textLength v_t_place v_t_sign v_t_readLetters v_t_readLength v_t_readNumber) (fun x => x = r)) (cc := cX8_clearCommands) (maxL := 2) (ret := (some .int)) (own := RX8) (by decide) rfl rfl (Nat.le_of_ble_eq_true rfl) ?_
  intro p e s m args below meth c hx hb hr hts hown hlocks hml hin A hA hP hD hS hK ls hl
  have hl : lv_has ls 2 [(0, .ref a_t)] := hl
  have hP : va_P (dC, dI) vwCl [(a_t, .inr (7, [.int v_t_thrown, .ref a_t_state, .ref a_t_kept, .ref a_t_stack, .int v_t_saved, .ref a_t_text, .int v_t_textLength, .int v_t_place, .int v_t_sign, .int v_t_readLetters, .int v_t_readLength, .int v_t_readNumber]))] s.heap := hP
  have hD : va_D A [(a_t, .inr (7, [.int v_t_thrown, .ref a_t_state, .ref a_t_kept, .ref a_t_stack, .int v_t_saved, .ref a_t_text, .int v_t_textLength, .int v_t_place, .int v_t_sign, .int v_t_readLetters, .int v_t_readLength, .int v_t_readNumber]))] := hD
  refine lv_aload_n hx hb dX8_clearCommands_0 rfl (lv_at hl 0 rfl) ?_
  refine lv_iconst (v := 0) hx hb dX8_clearCommands_1 (by decide) ?_
  refine va_put (D := (dC, dI)) (ci := 7) (C := RX8) (T := TX8) (N := 12) (ty := .int) hx hb hts iX8_clearCommands_X8 tyX8 tyX8_ok nmX8 hown hK hP hD hS 0 rfl rfl 0 (by decide) (hts _ (List.mem_of_getElem? (i := 1) rfl)) (fun _ h9 => h9) rfl (by decide +kernel) rfl rfl (Nat.le_of_ble_eq_true rfl) dX8_clearCommands_2 (fun H locs hP hD hS => ?_)
  have hP : va_P (dC, dI) vwCl [(a_t, .inr (7, [.int 0, .ref a_t_state, .ref a_t_kept, .ref a_t_stack, .int v_t_saved, .ref a_t_text, .int v_t_textLength, .int v_t_place, .int v_t_sign, .int v_t_readLetters, .int v_t_readLength, .int v_t_readNumber]))] H := hP
  have hD : va_D A [(a_t, .inr (7, [.int 0, .ref a_t_state, .ref a_t_kept, .ref a_t_stack, .int v_t_saved, .ref a_t_text, .int v_t_textLength, .int v_t_place, .int v_t_sign, .int v_t_readLetters, .int v_t_readLength, .int v_t_readNumber]))] := hD
  refine lv_aload_n hx hb dX8_clearCommands_5 rfl (lv_at hl 0 rfl) ?_
  refine va_get (D := (dC, dI)) (ci := 7) (C := RX8) (T := TX8) (N := 12) hx hb hts iX8_clearCommands_X8 hown hK hP 0 rfl rfl 6 (by decide) (hts _ (List.mem_of_getElem? (i := 2) rfl)) (fun _ h9 => h9) rfl dX8_clearCommands_6 ?_
  refine lv_istore_n (lv' := [(1, .int v_t_textLength), (0, .ref a_t)]) hx hb dX8_clearCommands_9 rfl hl (by decide) rfl (fun ls hl => ?_)
  refine lv_aload_n hx hb dX8_clearCommands_10 rfl (lv_at hl 1 rfl) ?_
  refine lv_iconst (v := 0) hx hb dX8_clearCommands_11 (by decide) ?_
  refine va_put (D := (dC, dI)) (ci := 7) (C := RX8) (T := TX8) (N := 12) (ty := .int) hx hb hts iX8_clearCommands_X8 tyX8 tyX8_ok nmX8 hown hK hP hD hS 0 rfl rfl 6 (by decide) (hts _ (List.mem_of_getElem? (i := 2) rfl)) (fun _ h9 => h9) rfl (by decide +kernel) rfl rfl (Nat.le_of_ble_eq_true rfl) dX8_clearCommands_12 (fun H locs hP hD hS => ?_)
  have hP : va_P (dC, dI) vwCl [(a_t, .inr (7, [.int 0, .ref a_t_state, .ref a_t_kept, .ref a_t_stack, .int v_t_saved, .ref a_t_text, .int 0, .int v_t_place, .int v_t_sign, .int v_t_readLetters, .int v_t_readLength, .int v_t_readNumber]))] H := hP
  have hD : va_D A [(a_t, .inr (7, [.int 0, .ref a_t_state, .ref a_t_kept, .ref a_t_stack, .int v_t_saved, .ref a_t_text, .int 0, .int v_t_place, .int v_t_sign, .int v_t_readLetters, .int v_t_readLength, .int v_t_readNumber]))] := hD
  refine lv_iload_n hx hb dX8_clearCommands_15 rfl (lv_at hl 0 rfl) ?_
  cases hm
  exact mu_iret hx hb hr rfl rfl hP hD hS hK [0] rfl (by decide) dX8_clearCommands_16 hlocks
def mX8_next (v_t_textLength : Int32) (v_t_place : Int32) (f_t_text : Nat → Int32) : Option (Int32) :=
  (if v_t_textLength ≤ v_t_place then
    some (-1)
  else
    ((rdA 120 f_t_text v_t_place).bind fun r19 =>
    some r19))
abbrev rmX8_next : Room := { frames := 0, cells := 0, slots := 0, locals := 0 }
abbrev wX8_next (cA : ClassId) (a_t a_t_state a_t_kept a_t_stack a_t_text : Nat) (v_t_thrown v_t_saved v_t_textLength v_t_place v_t_sign v_t_readLetters v_t_readLength v_t_readNumber : Int32) (f_t_text : Nat → Int32) : va_W := [(a_t, .inr (7, [.int v_t_thrown, .ref a_t_state, .ref a_t_kept, .ref a_t_stack, .int v_t_saved, .ref a_t_text, .int v_t_textLength, .int v_t_place, .int v_t_sign, .int v_t_readLetters, .int v_t_readLength, .int v_t_readNumber])), (a_t_text, .inl (cA, 120, .inl f_t_text))]
theorem iX8_next_X8 : ∀ w ∈ wsX80, w ∈ wsX8_next := (fun _ h => List.mem_cons_of_mem _ (List.mem_append_right _ h))
theorem hdX8_next : yX8_next.cls = RX8 ∧ yX8_next.cls ≠ "java/lang/invoke/MethodHandle" ∧ yX8_next.cls ≠ "java/lang/invoke/VarHandle" ∧ (parseMethodDescriptor yX8_next.desc).map (fun d => d.parameters.length) = some 0 := by decide +kernel
set_option maxHeartbeats 4000000 in
set_option maxRecDepth 100000 in
theorem kX8_next (l : Launch) (dC : Nat → ClassId) (dI : Nat → Nat → Nat) (cA : ClassId) (a_t a_t_state a_t_kept a_t_stack a_t_text : Nat) (v_t_thrown v_t_saved v_t_textLength v_t_place v_t_sign v_t_readLetters v_t_readLength v_t_readNumber : Int32) (f_t_text : Nat → Int32) (r : Int32) (hm : (mX8_next v_t_textLength v_t_place f_t_text) = some r) : Met l yX8_next wsX8_next rmX8_next (rpc (dC, dI) [(cA, .int)] (wX8_next cA a_t a_t_state a_t_kept a_t_stack a_t_text v_t_thrown v_t_saved v_t_textLength v_t_place v_t_sign v_t_readLetters v_t_readLength v_t_readNumber f_t_text) [.ref a_t]) (vp_Si (fun x => x = r)) 0 0 (fun _ => False) := by
  unfold mX8_next at hm
  refine ro_ofW (cc := cX8_next) (maxL := 1) (ret := (some .int)) (own := RX8) (by decide) rfl rfl (Nat.le_of_ble_eq_true rfl) ?_
  intro p e s m args below meth c hx hb hr hts hown hlocks hml hP hK ls hl
  have hl : lv_has ls 1 [(0, .ref a_t)] := hl
  have hP : va_P (dC, dI) vwCl [(a_t, .inr (7, [.int v_t_thrown, .ref a_t_state, .ref a_t_kept, .ref a_t_stack, .int v_t_saved, .ref a_t_text, .int v_t_textLength, .int v_t_place, .int v_t_sign, .int v_t_readLetters, .int v_t_readLength, .int v_t_readNumber])), (a_t_text, .inl (cA, 120, .inl f_t_text))] s.heap := hP
  refine lv_aload_n hx hb dX8_next_0 rfl (lv_at hl 0 rfl) ?_
  refine va_get (D := (dC, dI)) (ci := 7) (C := RX8) (T := TX8) (N := 12) hx hb hts iX8_next_X8 hown hK hP 0 rfl rfl 7 (by decide) (hts _ (List.mem_of_getElem? (i := 1) rfl)) (fun _ h9 => h9) rfl dX8_next_1 ?_
  refine lv_aload_n hx hb dX8_next_4 rfl (lv_at hl 0 rfl) ?_
  refine va_get (D := (dC, dI)) (ci := 7) (C := RX8) (T := TX8) (N := 12) hx hb hts iX8_next_X8 hown hK hP 0 rfl rfl 6 (by decide) (hts _ (List.mem_of_getElem? (i := 2) rfl)) (fun _ h9 => h9) rfl dX8_next_5 ?_
  refine lv_icmp_ge (tgt := 23) hx hb dX8_next_8 (by decide) (fun c8 => ?_) (fun c8 => ?_)
  · rw [if_pos c8] at hm
    refine lv_iconst (v := (-1)) hx hb dX8_next_23 (by decide) ?_
    cases hm
    exact ro_iret hx hb hr rfl rfl dX8_next_24 hlocks
  · rw [if_neg c8] at hm
    refine lv_aload_n hx hb dX8_next_11 rfl (lv_at hl 0 rfl) ?_
    refine va_get (D := (dC, dI)) (ci := 7) (C := RX8) (T := TX8) (N := 12) hx hb hts iX8_next_X8 hown hK hP 0 rfl rfl 5 (by decide) (hts _ (List.mem_of_getElem? (i := 3) rfl)) (fun _ h9 => h9) rfl dX8_next_12 ?_
    refine lv_aload_n hx hb dX8_next_15 rfl (lv_at hl 0 rfl) ?_
    refine va_get (D := (dC, dI)) (ci := 7) (C := RX8) (T := TX8) (N := 12) hx hb hts iX8_next_X8 hown hK hP 0 rfl rfl 7 (by decide) (hts _ (List.mem_of_getElem? (i := 1) rfl)) (fun _ h9 => h9) rfl dX8_next_16 ?_
    obtain ⟨r19, e19, hm⟩ := bs hm
    try dsimp only at hm
    refine xa_ldO hx hb hK hP 1 0 rfl rfl e19 dX8_next_19 ?_
    refine lv_goto (tgt := 24) hx hb dX8_next_20 (by decide) ?_
    cases hm
    exact ro_iret hx hb hr rfl rfl dX8_next_24 hlocks
def mX8_readsName_L10 (v_t_textLength : Int32) (f_t_text : Nat → Int32) : Nat → (Int32) → (Int32) → (Int32) → Option (Int32 × Int32 × Int32)
  | 0, _, _, _ => none
  | n + 1, v_t_place_L10, v_t_readLetters_L10, v_t_readLength_L10 =>
    (if 8 ≤ v_t_readLength_L10 then
      some (v_t_place_L10, v_t_readLetters_L10, v_t_readLength_L10)
    else
      ((mX8_next v_t_textLength v_t_place_L10 f_t_text).bind fun r20 =>
      (if (mX8_within r20 97 104) = 0 then
        some (v_t_place_L10, v_t_readLetters_L10, v_t_readLength_L10)
      else
        ((mX8_next v_t_textLength v_t_place_L10 f_t_text).bind fun r42 =>
        mX8_readsName_L10 v_t_textLength f_t_text n (v_t_place_L10 + 1) (((8 * v_t_readLetters_L10) + r42) - 97) (v_t_readLength_L10 + 1)))))
def mX8_readsName (v_t_textLength : Int32) (v_t_place : Int32) (f_t_text : Nat → Int32) : Option (Int32 × Int32 × Int32 × Int32) :=
  ((mX8_readsName_L10 v_t_textLength f_t_text FU v_t_place 0 0).bind fun (v_t_place_E10, v_t_readLetters_E10, v_t_readLength_E10) =>
  some ((if v_t_readLength_E10 ≤ 0 then (0 : Int32) else 1), v_t_place_E10, v_t_readLetters_E10, v_t_readLength_E10))
abbrev rmX8_readsName : Room := { frames := 1, cells := 0, slots := 0, locals := 22 }
abbrev wX8_readsName (cA : ClassId) (a_t a_t_state a_t_kept a_t_stack a_t_text : Nat) (v_t_thrown v_t_saved v_t_textLength v_t_place v_t_sign v_t_readLetters v_t_readLength v_t_readNumber : Int32) (f_t_text : Nat → Int32) : va_W := [(a_t, .inr (7, [.int v_t_thrown, .ref a_t_state, .ref a_t_kept, .ref a_t_stack, .int v_t_saved, .ref a_t_text, .int v_t_textLength, .int v_t_place, .int v_t_sign, .int v_t_readLetters, .int v_t_readLength, .int v_t_readNumber])), (a_t_text, .inl (cA, 120, .inl f_t_text))]
theorem iX8_readsName_X8 : ∀ w ∈ wsX80, w ∈ wsX8_readsName := (fun _ h => List.mem_cons_of_mem _ (List.mem_append_right _ h))
theorem hdX8_readsName : yX8_readsName.cls = RX8 ∧ yX8_readsName.cls ≠ "java/lang/invoke/MethodHandle" ∧ yX8_readsName.cls ≠ "java/lang/invoke/VarHandle" ∧ (parseMethodDescriptor yX8_readsName.desc).map (fun d => d.parameters.length) = some 0 := by decide +kernel
set_option maxHeartbeats 4000000 in
set_option maxRecDepth 100000 in
theorem wX8_readsName_L10 {p : Program} {l : Launch} {e : Env} {s : State} {m : MethodId} {args : Array Value} {below : List Frame} {meth : Method} {c : Code} {Q : State → Prop} {A : Nat → Prop} (dC : Nat → ClassId) (dI : Nat → Nat → Nat) (cA : ClassId) (a_t a_t_state a_t_kept a_t_stack a_t_text : Nat) (v_t_thrown v_t_saved v_t_textLength v_t_sign v_t_readNumber : Int32) (f_t_text : Nat → Int32) (v_t_place_E10 v_t_readLetters_E10 v_t_readLength_E10 : Int32) (hx : p.tables.exec = Jvm.exec) (hb : c.code = cX8_readsName) (hml : c.maxLocals = 1) (hown : s.vm.findClass RX8 = some m.cls) (hts : ∀ w ∈ wsX8_readsName, w.before args s = true) (hA : ∀ q, s.heap.size ≤ q → A q) (hK : va_K (dC, dI) vwCl [(cA, .int)] s)
    (kk0 : ∀ (H : Heap) (locs : List Loc), va_P (dC, dI) vwCl [(a_t, .inr (7, [.int v_t_thrown, .ref a_t_state, .ref a_t_kept, .ref a_t_stack, .int v_t_saved, .ref a_t_text, .int v_t_textLength, .int v_t_place_E10, .int v_t_sign, .int v_t_readLetters_E10, .int v_t_readLength_E10, .int v_t_readNumber])), (a_t_text, .inl (cA, 120, .inl f_t_text))] H → va_D A [(a_t, .inr (7, [.int v_t_thrown, .ref a_t_state, .ref a_t_kept, .ref a_t_stack, .int v_t_saved, .ref a_t_text, .int v_t_textLength, .int v_t_place_E10, .int v_t_sign, .int v_t_readLetters_E10, .int v_t_readLength_E10, .int v_t_readNumber])), (a_t_text, .inl (cA, 120, .inl f_t_text))] → va_S A s.heap H locs → ∀ ls : Array Slot, lv_has ls 1 [(0, .ref a_t)] → W p l e (headSpec wsX8_readsName rmX8_readsName).room s m args below meth c H locs 0 0 Q (F0 m 75 ls [])) :
    ∀ (n : Nat) (v_t_place_L10 v_t_readLetters_L10 v_t_readLength_L10 : Int32), mX8_readsName_L10 v_t_textLength f_t_text n v_t_place_L10 v_t_readLetters_L10 v_t_readLength_L10 = some (v_t_place_E10, v_t_readLetters_E10, v_t_readLength_E10) → ∀ (H : Heap) (locs : List Loc), va_P (dC, dI) vwCl [(a_t, .inr (7, [.int v_t_thrown, .ref a_t_state, .ref a_t_kept, .ref a_t_stack, .int v_t_saved, .ref a_t_text, .int v_t_textLength, .int v_t_place_L10, .int v_t_sign, .int v_t_readLetters_L10, .int v_t_readLength_L10, .int v_t_readNumber])), (a_t_text, .inl (cA, 120, .inl f_t_text))] H → va_D A [(a_t, .inr (7, [.int v_t_thrown, .ref a_t_state, .ref a_t_kept, .ref a_t_stack, .int v_t_saved, .ref a_t_text, .int v_t_textLength, .int v_t_place_L10, .int v_t_sign, .int v_t_readLetters_L10, .int v_t_readLength_L10, .int v_t_readNumber])), (a_t_text, .inl (cA, 120, .inl f_t_text))] → va_S A s.heap H locs → ∀ ls : Array Slot, lv_has ls 1 [(0, .ref a_t)] → W p l e (headSpec wsX8_readsName rmX8_readsName).room s m args below meth c H locs 0 0 Q (F0 m 10 ls []) := by
  intro n
  induction n with
  | zero =>
    intro v_t_place_L10 v_t_readLetters_L10 v_t_readLength_L10 hm
    cases hm
  | succ n ih =>
    intro v_t_place_L10 v_t_readLetters_L10 v_t_readLength_L10 hm H locs hP hD hS ls hl
    rw [mX8_readsName_L10] at hm
    refine lv_aload_n hx hb dX8_readsName_10 rfl (lv_at hl 0 rfl) ?_
    refine va_get (D := (dC, dI)) (ci := 7) (C := RX8) (T := TX8) (N := 12) hx hb hts iX8_readsName_X8 hown hK hP 0 rfl rfl 10 (by decide) (hts _ (List.mem_of_getElem? (i := 2) rfl)) (fun _ h9 => h9) rfl dX8_readsName_11 ?_
    refine lv_bipush (v := 8) hx hb dX8_readsName_14 (by decide) ?_
    refine lv_icmp_ge (tgt := 75) hx hb dX8_readsName_16 (by decide) (fun c16 => ?_) (fun c16 => ?_)
    · rw [if_pos c16] at hm
      cases hm
      exact kk0 _ _ (hP.sub [0, 1] rfl) (hD.sub [0, 1] (by decide) rfl) hS _ (lv_sub hl [0] rfl)
    · rw [if_neg c16] at hm
      refine lv_aload_n hx hb dX8_readsName_19 rfl (lv_at hl 0 rfl) ?_
      obtain ⟨r20, e20, hm⟩ := bs hm
      try dsimp only at hm
      refine ro_callVe ⟨hx, hb, hml, hown, hts⟩ (kX8_next l dC dI cA a_t a_t_state a_t_kept a_t_stack a_t_text v_t_thrown v_t_saved v_t_textLength v_t_place_L10 v_t_sign v_t_readLetters_L10 v_t_readLength_L10 v_t_readNumber f_t_text r20 e20) (cwV 0 hts gX8_readsName_X8_next rfl rfl rfl hdX8_next ⟨Nat.le_of_ble_eq_true rfl, Nat.le_of_ble_eq_true rfl⟩) (hP.sub [0, 1] rfl) hK rfl rfl rfl hl.1 rfl (Nat.le_of_ble_eq_true rfl) dX8_readsName_20 ⟨Nat.zero_le _, Nat.zero_le _⟩ ?_
      refine lv_bipush (v := 97) hx hb dX8_readsName_23 (by decide) ?_
      refine lv_bipush (v := 104) hx hb dX8_readsName_25 (by decide) ?_
      refine sp_callSz ⟨hx, hb, hml, hown, hts⟩ (kX8_within l r20 97 104) (va_cwS 3 hts gX8_readsName_X8_within rfl rfl rfl hdX8_within.2 ⟨Nat.le_of_ble_eq_true rfl, Nat.le_of_ble_eq_true rfl⟩) rfl hl.1 rfl (Nat.le_of_ble_eq_true rfl) dX8_readsName_27 ⟨Nat.zero_le _, Nat.zero_le _⟩ (fun hb27 => ?_)
      refine lv_if_eq (tgt := 75) hx hb dX8_readsName_30 (by decide) (fun c30 => ?_) (fun c30 => ?_)
      · rw [if_pos c30] at hm
        cases hm
        exact kk0 _ _ (hP.sub [0, 1] rfl) (hD.sub [0, 1] (by decide) rfl) hS _ (lv_sub hl [0] rfl)
      · rw [if_neg c30] at hm
        refine lv_aload_n hx hb dX8_readsName_33 rfl (lv_at hl 0 rfl) ?_
        refine lv_bipush (v := 8) hx hb dX8_readsName_34 (by decide) ?_
        refine lv_aload_n hx hb dX8_readsName_36 rfl (lv_at hl 0 rfl) ?_
        refine va_get (D := (dC, dI)) (ci := 7) (C := RX8) (T := TX8) (N := 12) hx hb hts iX8_readsName_X8 hown hK hP 0 rfl rfl 9 (by decide) (hts _ (List.mem_of_getElem? (i := 1) rfl)) (fun _ h9 => h9) rfl dX8_readsName_37 ?_
        refine lv_imul hx hb dX8_readsName_40 ?_
        refine lv_aload_n hx hb dX8_readsName_41 rfl (lv_at hl 0 rfl) ?_
        obtain ⟨r42, e42, hm⟩ := bs hm
        try dsimp only at hm
        refine ro_callVe ⟨hx, hb, hml, hown, hts⟩ (kX8_next l dC dI cA a_t a_t_state a_t_kept a_t_stack a_t_text v_t_thrown v_t_saved v_t_textLength v_t_place_L10 v_t_sign v_t_readLetters_L10 v_t_readLength_L10 v_t_readNumber f_t_text r42 e42) (cwV 0 hts gX8_readsName_X8_next rfl rfl rfl hdX8_next ⟨Nat.le_of_ble_eq_true rfl, Nat.le_of_ble_eq_true rfl⟩) (hP.sub [0, 1] rfl) hK rfl rfl rfl hl.1 rfl (Nat.le_of_ble_eq_true rfl) dX8_readsName_42 ⟨Nat.zero_le _, Nat.zero_le _⟩ ?_
        refine lv_iadd hx hb dX8_readsName_45 ?_
        refine lv_bipush (v := 97) hx hb dX8_readsName_46 (by decide) ?_
        refine lv_isub hx hb dX8_readsName_48 ?_
        refine va_put (D := (dC, dI)) (ci := 7) (C := RX8) (T := TX8) (N := 12) (ty := .int) hx hb hts iX8_readsName_X8 tyX8 tyX8_ok nmX8 hown hK hP hD hS 0 rfl rfl 9 (by decide) (hts _ (List.mem_of_getElem? (i := 1) rfl)) (fun _ h9 => h9) rfl (by decide +kernel) rfl rfl (Nat.le_of_ble_eq_true rfl) dX8_readsName_49 (fun H locs hP hD hS => ?_)
        have hP : va_P (dC, dI) vwCl [(a_t, .inr (7, [.int v_t_thrown, .ref a_t_state, .ref a_t_kept, .ref a_t_stack, .int v_t_saved, .ref a_t_text, .int v_t_textLength, .int v_t_place_L10, .int v_t_sign, .int (((8 * v_t_readLetters_L10) + r42) - 97), .int v_t_readLength_L10, .int v_t_readNumber])), (a_t_text, .inl (cA, 120, .inl f_t_text))] H := hP
        have hD : va_D A [(a_t, .inr (7, [.int v_t_thrown, .ref a_t_state, .ref a_t_kept, .ref a_t_stack, .int v_t_saved, .ref a_t_text, .int v_t_textLength, .int v_t_place_L10, .int v_t_sign, .int (((8 * v_t_readLetters_L10) + r42) - 97), .int v_t_readLength_L10, .int v_t_readNumber])), (a_t_text, .inl (cA, 120, .inl f_t_text))] := hD
        refine lv_aload_n hx hb dX8_readsName_52 rfl (lv_at hl 0 rfl) ?_
        refine lv_dup hx hb dX8_readsName_53 rfl ?_
        refine va_get (D := (dC, dI)) (ci := 7) (C := RX8) (T := TX8) (N := 12) hx hb hts iX8_readsName_X8 hown hK hP 0 rfl rfl 10 (by decide) (hts _ (List.mem_of_getElem? (i := 2) rfl)) (fun _ h9 => h9) rfl dX8_readsName_54 ?_
        refine lv_iconst (v := 1) hx hb dX8_readsName_57 (by decide) ?_
        refine lv_iadd hx hb dX8_readsName_58 ?_
        refine va_put (D := (dC, dI)) (ci := 7) (C := RX8) (T := TX8) (N := 12) (ty := .int) hx hb hts iX8_readsName_X8 tyX8 tyX8_ok nmX8 hown hK hP hD hS 0 rfl rfl 10 (by decide) (hts _ (List.mem_of_getElem? (i := 2) rfl)) (fun _ h9 => h9) rfl (by decide +kernel) rfl rfl (Nat.le_of_ble_eq_true rfl) dX8_readsName_59 (fun H locs hP hD hS => ?_)
        have hP : va_P (dC, dI) vwCl [(a_t, .inr (7, [.int v_t_thrown, .ref a_t_state, .ref a_t_kept, .ref a_t_stack, .int v_t_saved, .ref a_t_text, .int v_t_textLength, .int v_t_place_L10, .int v_t_sign, .int (((8 * v_t_readLetters_L10) + r42) - 97), .int (v_t_readLength_L10 + 1), .int v_t_readNumber])), (a_t_text, .inl (cA, 120, .inl f_t_text))] H := hP
        have hD : va_D A [(a_t, .inr (7, [.int v_t_thrown, .ref a_t_state, .ref a_t_kept, .ref a_t_stack, .int v_t_saved, .ref a_t_text, .int v_t_textLength, .int v_t_place_L10, .int v_t_sign, .int (((8 * v_t_readLetters_L10) + r42) - 97), .int (v_t_readLength_L10 + 1), .int v_t_readNumber])), (a_t_text, .inl (cA, 120, .inl f_t_text))] := hD
        refine lv_aload_n hx hb dX8_readsName_62 rfl (lv_at hl 0 rfl) ?_
        refine lv_dup hx hb dX8_readsName_63 rfl ?_
        refine va_get (D := (dC, dI)) (ci := 7) (C := RX8) (T := TX8) (N := 12) hx hb hts iX8_readsName_X8 hown hK hP 0 rfl rfl 7 (by decide) (hts _ (List.mem_of_getElem? (i := 3) rfl)) (fun _ h9 => h9) rfl dX8_readsName_64 ?_
        refine lv_iconst (v := 1) hx hb dX8_readsName_67 (by decide) ?_
        refine lv_iadd hx hb dX8_readsName_68 ?_
        refine va_put (D := (dC, dI)) (ci := 7) (C := RX8) (T := TX8) (N := 12) (ty := .int) hx hb hts iX8_readsName_X8 tyX8 tyX8_ok nmX8 hown hK hP hD hS 0 rfl rfl 7 (by decide) (hts _ (List.mem_of_getElem? (i := 3) rfl)) (fun _ h9 => h9) rfl (by decide +kernel) rfl rfl (Nat.le_of_ble_eq_true rfl) dX8_readsName_69 (fun H locs hP hD hS => ?_)
        have hP : va_P (dC, dI) vwCl [(a_t, .inr (7, [.int v_t_thrown, .ref a_t_state, .ref a_t_kept, .ref a_t_stack, .int v_t_saved, .ref a_t_text, .int v_t_textLength, .int (v_t_place_L10 + 1), .int v_t_sign, .int (((8 * v_t_readLetters_L10) + r42) - 97), .int (v_t_readLength_L10 + 1), .int v_t_readNumber])), (a_t_text, .inl (cA, 120, .inl f_t_text))] H := hP
        have hD : va_D A [(a_t, .inr (7, [.int v_t_thrown, .ref a_t_state, .ref a_t_kept, .ref a_t_stack, .int v_t_saved, .ref a_t_text, .int v_t_textLength, .int (v_t_place_L10 + 1), .int v_t_sign, .int (((8 * v_t_readLetters_L10) + r42) - 97), .int (v_t_readLength_L10 + 1), .int v_t_readNumber])), (a_t_text, .inl (cA, 120, .inl f_t_text))] := hD
        refine lv_goto (tgt := 10) hx hb dX8_readsName_72 (by decide) ?_
        exact ih _ _ _ hm _ _ (hP.sub [0, 1] rfl) (hD.sub [0, 1] (by decide) rfl) hS _ (lv_sub hl [0] rfl)
set_option maxHeartbeats 4000000 in
set_option maxRecDepth 100000 in
theorem kX8_readsName (l : Launch) (dC : Nat → ClassId) (dI : Nat → Nat → Nat) (cA : ClassId) (a_t a_t_state a_t_kept a_t_stack a_t_text : Nat) (v_t_thrown v_t_saved v_t_textLength v_t_place v_t_sign v_t_readLetters v_t_readLength v_t_readNumber : Int32) (f_t_text : Nat → Int32) (sz : Nat) (r o_v_t_place o_v_t_readLetters o_v_t_readLength : Int32) (hm : (mX8_readsName v_t_textLength v_t_place f_t_text) = some (r, o_v_t_place, o_v_t_readLetters, o_v_t_readLength)) : Met l yX8_readsName wsX8_readsName rmX8_readsName (mpc (dC, dI) [(cA, .int)] (wX8_readsName cA a_t a_t_state a_t_kept a_t_stack a_t_text v_t_thrown v_t_saved v_t_textLength v_t_place v_t_sign v_t_readLetters v_t_readLength v_t_readNumber f_t_text) [.ref a_t] sz) (mqi (dC, dI) [(cA, .int)] (va_A (wX8_readsName cA a_t a_t_state a_t_kept a_t_stack a_t_text v_t_thrown v_t_saved v_t_textLength v_t_place v_t_sign v_t_readLetters v_t_readLength v_t_readNumber f_t_text) sz) (wX8_readsName cA a_t a_t_state a_t_kept a_t_stack a_t_text v_t_thrown v_t_saved v_t_textLength o_v_t_place v_t_sign o_v_t_readLetters o_v_t_readLength v_t_readNumber f_t_text) (fun x => x = r ∧ nbr r)) 0 0 (va_A (wX8_readsName cA a_t a_t_state a_t_kept a_t_stack a_t_text v_t_thrown v_t_saved v_t_textLength v_t_place v_t_sign v_t_readLetters v_t_readLength v_t_readNumber f_t_text) sz) := by
  unfold mX8_readsName at hm
  refine mu_ofW (Qc := fun A => mqi (dC, dI) [(cA, .int)] A (wX8_readsName cA a_t a_t_state a_t_kept a_t_stack a_t_text v_t_thrown v_t_saved v_t_textLength o_v_t_place v_t_sign o_v_t_readLetters o_v_t_readLength v_t_readNumber f_t_text) (fun x => x = r ∧ nbr r)) (cc := cX8_readsName) (maxL := 1) (ret := (some .boolean)) (own := RX8) (by decide) rfl rfl (Nat.le_of_ble_eq_true rfl) ?_
  intro p e s m args below meth c hx hb hr hts hown hlocks hml hin A hA hP hD hS hK ls hl
  have hl : lv_has ls 1 [(0, .ref a_t)] := hl
  have hP : va_P (dC, dI) vwCl [(a_t, .inr (7, [.int v_t_thrown, .ref a_t_state, .ref a_t_kept, .ref a_t_stack, .int v_t_saved, .ref a_t_text, .int v_t_textLength, .int v_t_place, .int v_t_sign, .int v_t_readLetters, .int v_t_readLength, .int v_t_readNumber])), (a_t_text, .inl (cA, 120, .inl f_t_text))] s.heap := hP
  have hD : va_D A [(a_t, .inr (7, [.int v_t_thrown, .ref a_t_state, .ref a_t_kept, .ref a_t_stack, .int v_t_saved, .ref a_t_text, .int v_t_textLength, .int v_t_place, .int v_t_sign, .int v_t_readLetters, .int v_t_readLength, .int v_t_readNumber])), (a_t_text, .inl (cA, 120, .inl f_t_text))] := hD
  refine lv_aload_n hx hb dX8_readsName_0 rfl (lv_at hl 0 rfl) ?_
  refine lv_iconst (v := 0) hx hb dX8_readsName_1 (by decide) ?_
  refine va_put (D := (dC, dI)) (ci := 7) (C := RX8) (T := TX8) (N := 12) (ty := .int) hx hb hts iX8_readsName_X8 tyX8 tyX8_ok nmX8 hown hK hP hD hS 0 rfl rfl 9 (by decide) (hts _ (List.mem_of_getElem? (i := 1) rfl)) (fun _ h9 => h9) rfl (by decide +kernel) rfl rfl (Nat.le_of_ble_eq_true rfl) dX8_readsName_2 (fun H locs hP hD hS => ?_)
  have hP : va_P (dC, dI) vwCl [(a_t, .inr (7, [.int v_t_thrown, .ref a_t_state, .ref a_t_kept, .ref a_t_stack, .int v_t_saved, .ref a_t_text, .int v_t_textLength, .int v_t_place, .int v_t_sign, .int 0, .int v_t_readLength, .int v_t_readNumber])), (a_t_text, .inl (cA, 120, .inl f_t_text))] H := hP
  have hD : va_D A [(a_t, .inr (7, [.int v_t_thrown, .ref a_t_state, .ref a_t_kept, .ref a_t_stack, .int v_t_saved, .ref a_t_text, .int v_t_textLength, .int v_t_place, .int v_t_sign, .int 0, .int v_t_readLength, .int v_t_readNumber])), (a_t_text, .inl (cA, 120, .inl f_t_text))] := hD
  refine lv_aload_n hx hb dX8_readsName_5 rfl (lv_at hl 0 rfl) ?_
  refine lv_iconst (v := 0) hx hb dX8_readsName_6 (by decide) ?_
  refine va_put (D := (dC, dI)) (ci := 7) (C := RX8) (T := TX8) (N := 12) (ty := .int) hx hb hts iX8_readsName_X8 tyX8 tyX8_ok nmX8 hown hK hP hD hS 0 rfl rfl 10 (by decide) (hts _ (List.mem_of_getElem? (i := 2) rfl)) (fun _ h9 => h9) rfl (by decide +kernel) rfl rfl (Nat.le_of_ble_eq_true rfl) dX8_readsName_7 (fun H locs hP hD hS => ?_)
  have hP : va_P (dC, dI) vwCl [(a_t, .inr (7, [.int v_t_thrown, .ref a_t_state, .ref a_t_kept, .ref a_t_stack, .int v_t_saved, .ref a_t_text, .int v_t_textLength, .int v_t_place, .int v_t_sign, .int 0, .int 0, .int v_t_readNumber])), (a_t_text, .inl (cA, 120, .inl f_t_text))] H := hP
  have hD : va_D A [(a_t, .inr (7, [.int v_t_thrown, .ref a_t_state, .ref a_t_kept, .ref a_t_stack, .int v_t_saved, .ref a_t_text, .int v_t_textLength, .int v_t_place, .int v_t_sign, .int 0, .int 0, .int v_t_readNumber])), (a_t_text, .inl (cA, 120, .inl f_t_text))] := hD
  obtain ⟨⟨v_t_place_E10, v_t_readLetters_E10, v_t_readLength_E10⟩, e10, hm⟩ := bs hm
  try dsimp only at hm
  refine wX8_readsName_L10 dC dI cA a_t a_t_state a_t_kept a_t_stack a_t_text v_t_thrown v_t_saved v_t_textLength v_t_sign v_t_readNumber f_t_text  v_t_place_E10 v_t_readLetters_E10 v_t_readLength_E10 hx hb hml hown hts hA hK ?_ FU _ _ _ e10 _ _ (hP.sub [0, 1] rfl) (hD.sub [0, 1] (by decide) rfl) hS _ (lv_sub hl [0] rfl)
  · intro H locs hP hD hS ls hl
    refine lv_aload_n hx hb dX8_readsName_75 rfl (lv_at hl 0 rfl) ?_
    refine va_get (D := (dC, dI)) (ci := 7) (C := RX8) (T := TX8) (N := 12) hx hb hts iX8_readsName_X8 hown hK hP 0 rfl rfl 10 (by decide) (hts _ (List.mem_of_getElem? (i := 2) rfl)) (fun _ h9 => h9) rfl dX8_readsName_76 ?_
    refine lv_if_le (tgt := 86) hx hb dX8_readsName_79 (by decide) (fun c79 => ?_) (fun c79 => ?_)
    · try simp only [if_pos c79] at hm
      refine lv_iconst (v := 0) hx hb dX8_readsName_86 (by decide) ?_
      cases hm
      exact mu_iret hx hb hr rfl ⟨rfl, rfl⟩ hP hD hS hK [0, 1] rfl (by decide) dX8_readsName_87 hlocks
    · try simp only [if_neg c79] at hm
      refine lv_iconst (v := 1) hx hb dX8_readsName_82 (by decide) ?_
      refine lv_goto (tgt := 87) hx hb dX8_readsName_83 (by decide) ?_
      cases hm
      exact mu_iret hx hb hr rfl ⟨rfl, rfl⟩ hP hD hS hK [0, 1] rfl (by decide) dX8_readsName_87 hlocks
def mX8_readsDigits_L7 (x1_7 : Int32) (v_t_textLength : Int32) (f_t_text : Nat → Int32) : Nat → (Int32) → (Int32) → (Int32) → Option (Int32 × Int32 × Int32)
  | 0, _, _, _ => none
  | n + 1, x2_7, v_t_place_L7, v_t_readNumber_L7 =>
    (if x1_7 ≤ x2_7 then
      some (x2_7, v_t_place_L7, v_t_readNumber_L7)
    else
      ((mX8_next v_t_textLength v_t_place_L7 f_t_text).bind fun r13 =>
      (if (mX8_within r13 48 57) = 0 then
        some (x2_7, v_t_place_L7, v_t_readNumber_L7)
      else
        ((mX8_next v_t_textLength v_t_place_L7 f_t_text).bind fun r35 =>
        mX8_readsDigits_L7 x1_7 v_t_textLength f_t_text n (x2_7 + 1) (v_t_place_L7 + 1) (((10 * v_t_readNumber_L7) + r35) - 48)))))
def mX8_readsDigits (v_t_textLength : Int32) (v_t_place : Int32) (f_t_text : Nat → Int32) (p1 : Int32) : Option (Int32 × Int32 × Int32) :=
  ((mX8_readsDigits_L7 p1 v_t_textLength f_t_text FU 0 v_t_place 0).bind fun (y2_7, v_t_place_E7, v_t_readNumber_E7) =>
  some ((if y2_7 ≤ 0 then (0 : Int32) else 1), v_t_place_E7, v_t_readNumber_E7))
abbrev rmX8_readsDigits : Room := { frames := 1, cells := 0, slots := 0, locals := 22 }
abbrev wX8_readsDigits (cA : ClassId) (a_t a_t_state a_t_kept a_t_stack a_t_text : Nat) (v_t_thrown v_t_saved v_t_textLength v_t_place v_t_sign v_t_readLetters v_t_readLength v_t_readNumber : Int32) (f_t_text : Nat → Int32) : va_W := [(a_t, .inr (7, [.int v_t_thrown, .ref a_t_state, .ref a_t_kept, .ref a_t_stack, .int v_t_saved, .ref a_t_text, .int v_t_textLength, .int v_t_place, .int v_t_sign, .int v_t_readLetters, .int v_t_readLength, .int v_t_readNumber])), (a_t_text, .inl (cA, 120, .inl f_t_text))]
theorem iX8_readsDigits_X8 : ∀ w ∈ wsX80, w ∈ wsX8_readsDigits := (fun _ h => List.mem_cons_of_mem _ (List.mem_append_right _ h))
theorem hdX8_readsDigits : yX8_readsDigits.cls = RX8 ∧ yX8_readsDigits.cls ≠ "java/lang/invoke/MethodHandle" ∧ yX8_readsDigits.cls ≠ "java/lang/invoke/VarHandle" ∧ (parseMethodDescriptor yX8_readsDigits.desc).map (fun d => d.parameters.length) = some 1 := by decide +kernel
set_option maxHeartbeats 4000000 in
set_option maxRecDepth 100000 in
theorem wX8_readsDigits_L7 {p : Program} {l : Launch} {e : Env} {s : State} {m : MethodId} {args : Array Value} {below : List Frame} {meth : Method} {c : Code} {Q : State → Prop} {A : Nat → Prop} (dC : Nat → ClassId) (dI : Nat → Nat → Nat) (cA : ClassId) (a_t a_t_state a_t_kept a_t_stack a_t_text : Nat) (v_t_thrown v_t_saved v_t_textLength v_t_sign v_t_readLetters v_t_readLength : Int32) (f_t_text : Nat → Int32) (p1 x1_7 y2_7 v_t_place_E7 v_t_readNumber_E7 : Int32) (hx : p.tables.exec = Jvm.exec) (hb : c.code = cX8_readsDigits) (hml : c.maxLocals = 3) (hown : s.vm.findClass RX8 = some m.cls) (hts : ∀ w ∈ wsX8_readsDigits, w.before args s = true) (hA : ∀ q, s.heap.size ≤ q → A q) (hK : va_K (dC, dI) vwCl [(cA, .int)] s)
    (kk0 : ∀ (H : Heap) (locs : List Loc), va_P (dC, dI) vwCl [(a_t, .inr (7, [.int v_t_thrown, .ref a_t_state, .ref a_t_kept, .ref a_t_stack, .int v_t_saved, .ref a_t_text, .int v_t_textLength, .int v_t_place_E7, .int v_t_sign, .int v_t_readLetters, .int v_t_readLength, .int v_t_readNumber_E7])), (a_t_text, .inl (cA, 120, .inl f_t_text))] H → va_D A [(a_t, .inr (7, [.int v_t_thrown, .ref a_t_state, .ref a_t_kept, .ref a_t_stack, .int v_t_saved, .ref a_t_text, .int v_t_textLength, .int v_t_place_E7, .int v_t_sign, .int v_t_readLetters, .int v_t_readLength, .int v_t_readNumber_E7])), (a_t_text, .inl (cA, 120, .inl f_t_text))] → va_S A s.heap H locs → ∀ ls : Array Slot, lv_has ls 3 [(0, .ref a_t), (1, .int x1_7), (2, .int y2_7)] → W p l e (headSpec wsX8_readsDigits rmX8_readsDigits).room s m args below meth c H locs 0 0 Q (F0 m 61 ls [])) :
    ∀ (n : Nat) (x2_7 v_t_place_L7 v_t_readNumber_L7 : Int32), mX8_readsDigits_L7 x1_7 v_t_textLength f_t_text n x2_7 v_t_place_L7 v_t_readNumber_L7 = some (y2_7, v_t_place_E7, v_t_readNumber_E7) → ∀ (H : Heap) (locs : List Loc), va_P (dC, dI) vwCl [(a_t, .inr (7, [.int v_t_thrown, .ref a_t_state, .ref a_t_kept, .ref a_t_stack, .int v_t_saved, .ref a_t_text, .int v_t_textLength, .int v_t_place_L7, .int v_t_sign, .int v_t_readLetters, .int v_t_readLength, .int v_t_readNumber_L7])), (a_t_text, .inl (cA, 120, .inl f_t_text))] H → va_D A [(a_t, .inr (7, [.int v_t_thrown, .ref a_t_state, .ref a_t_kept, .ref a_t_stack, .int v_t_saved, .ref a_t_text, .int v_t_textLength, .int v_t_place_L7, .int v_t_sign, .int v_t_readLetters, .int v_t_readLength, .int v_t_readNumber_L7])), (a_t_text, .inl (cA, 120, .inl f_t_text))] → va_S A s.heap H locs → ∀ ls : Array Slot, lv_has ls 3 [(0, .ref a_t), (1, .int x1_7), (2, .int x2_7)] → W p l e (headSpec wsX8_readsDigits rmX8_readsDigits).room s m args below meth c H locs 0 0 Q (F0 m 7 ls []) := by
  intro n
  induction n with
  | zero =>
    intro x2_7 v_t_place_L7 v_t_readNumber_L7 hm
    cases hm
  | succ n ih =>
    intro x2_7 v_t_place_L7 v_t_readNumber_L7 hm H locs hP hD hS ls hl
    rw [mX8_readsDigits_L7] at hm
    refine lv_iload_n hx hb dX8_readsDigits_7 rfl (lv_at hl 2 rfl) ?_
    refine lv_iload_n hx hb dX8_readsDigits_8 rfl (lv_at hl 1 rfl) ?_
    refine lv_icmp_ge (tgt := 61) hx hb dX8_readsDigits_9 (by decide) (fun c9 => ?_) (fun c9 => ?_)
    · rw [if_pos c9] at hm
      cases hm
      exact kk0 _ _ (hP.sub [0, 1] rfl) (hD.sub [0, 1] (by decide) rfl) hS _ (lv_sub hl [0, 1, 2] rfl)
    · rw [if_neg c9] at hm
      refine lv_aload_n hx hb dX8_readsDigits_12 rfl (lv_at hl 0 rfl) ?_
      obtain ⟨r13, e13, hm⟩ := bs hm
      try dsimp only at hm
      refine ro_callVe ⟨hx, hb, hml, hown, hts⟩ (kX8_next l dC dI cA a_t a_t_state a_t_kept a_t_stack a_t_text v_t_thrown v_t_saved v_t_textLength v_t_place_L7 v_t_sign v_t_readLetters v_t_readLength v_t_readNumber_L7 f_t_text r13 e13) (cwV 0 hts gX8_readsDigits_X8_next rfl rfl rfl hdX8_next ⟨Nat.le_of_ble_eq_true rfl, Nat.le_of_ble_eq_true rfl⟩) (hP.sub [0, 1] rfl) hK rfl rfl rfl hl.1 rfl (Nat.le_of_ble_eq_true rfl) dX8_readsDigits_13 ⟨Nat.zero_le _, Nat.zero_le _⟩ ?_
      refine lv_bipush (v := 48) hx hb dX8_readsDigits_16 (by decide) ?_
      refine lv_bipush (v := 57) hx hb dX8_readsDigits_18 (by decide) ?_
      refine sp_callSz ⟨hx, hb, hml, hown, hts⟩ (kX8_within l r13 48 57) (va_cwS 3 hts gX8_readsDigits_X8_within rfl rfl rfl hdX8_within.2 ⟨Nat.le_of_ble_eq_true rfl, Nat.le_of_ble_eq_true rfl⟩) rfl hl.1 rfl (Nat.le_of_ble_eq_true rfl) dX8_readsDigits_20 ⟨Nat.zero_le _, Nat.zero_le _⟩ (fun hb20 => ?_)
      refine lv_if_eq (tgt := 61) hx hb dX8_readsDigits_23 (by decide) (fun c23 => ?_) (fun c23 => ?_)
      · rw [if_pos c23] at hm
        cases hm
        exact kk0 _ _ (hP.sub [0, 1] rfl) (hD.sub [0, 1] (by decide) rfl) hS _ (lv_sub hl [0, 1, 2] rfl)
      · rw [if_neg c23] at hm
        refine lv_aload_n hx hb dX8_readsDigits_26 rfl (lv_at hl 0 rfl) ?_
        refine lv_bipush (v := 10) hx hb dX8_readsDigits_27 (by decide) ?_
        refine lv_aload_n hx hb dX8_readsDigits_29 rfl (lv_at hl 0 rfl) ?_
        refine va_get (D := (dC, dI)) (ci := 7) (C := RX8) (T := TX8) (N := 12) hx hb hts iX8_readsDigits_X8 hown hK hP 0 rfl rfl 11 (by decide) (hts _ (List.mem_of_getElem? (i := 1) rfl)) (fun _ h9 => h9) rfl dX8_readsDigits_30 ?_
        refine lv_imul hx hb dX8_readsDigits_33 ?_
        refine lv_aload_n hx hb dX8_readsDigits_34 rfl (lv_at hl 0 rfl) ?_
        obtain ⟨r35, e35, hm⟩ := bs hm
        try dsimp only at hm
        refine ro_callVe ⟨hx, hb, hml, hown, hts⟩ (kX8_next l dC dI cA a_t a_t_state a_t_kept a_t_stack a_t_text v_t_thrown v_t_saved v_t_textLength v_t_place_L7 v_t_sign v_t_readLetters v_t_readLength v_t_readNumber_L7 f_t_text r35 e35) (cwV 0 hts gX8_readsDigits_X8_next rfl rfl rfl hdX8_next ⟨Nat.le_of_ble_eq_true rfl, Nat.le_of_ble_eq_true rfl⟩) (hP.sub [0, 1] rfl) hK rfl rfl rfl hl.1 rfl (Nat.le_of_ble_eq_true rfl) dX8_readsDigits_35 ⟨Nat.zero_le _, Nat.zero_le _⟩ ?_
        refine lv_iadd hx hb dX8_readsDigits_38 ?_
        refine lv_bipush (v := 48) hx hb dX8_readsDigits_39 (by decide) ?_
        refine lv_isub hx hb dX8_readsDigits_41 ?_
        refine va_put (D := (dC, dI)) (ci := 7) (C := RX8) (T := TX8) (N := 12) (ty := .int) hx hb hts iX8_readsDigits_X8 tyX8 tyX8_ok nmX8 hown hK hP hD hS 0 rfl rfl 11 (by decide) (hts _ (List.mem_of_getElem? (i := 1) rfl)) (fun _ h9 => h9) rfl (by decide +kernel) rfl rfl (Nat.le_of_ble_eq_true rfl) dX8_readsDigits_42 (fun H locs hP hD hS => ?_)
        have hP : va_P (dC, dI) vwCl [(a_t, .inr (7, [.int v_t_thrown, .ref a_t_state, .ref a_t_kept, .ref a_t_stack, .int v_t_saved, .ref a_t_text, .int v_t_textLength, .int v_t_place_L7, .int v_t_sign, .int v_t_readLetters, .int v_t_readLength, .int (((10 * v_t_readNumber_L7) + r35) - 48)])), (a_t_text, .inl (cA, 120, .inl f_t_text))] H := hP
        have hD : va_D A [(a_t, .inr (7, [.int v_t_thrown, .ref a_t_state, .ref a_t_kept, .ref a_t_stack, .int v_t_saved, .ref a_t_text, .int v_t_textLength, .int v_t_place_L7, .int v_t_sign, .int v_t_readLetters, .int v_t_readLength, .int (((10 * v_t_readNumber_L7) + r35) - 48)])), (a_t_text, .inl (cA, 120, .inl f_t_text))] := hD
        refine lv_iinc (v := (x2_7 + 1)) (lv' := [(2, .int (x2_7 + 1)), (0, .ref a_t), (1, .int x1_7)]) hx hb dX8_readsDigits_45 hl (k := 2) rfl rfl (by decide) rfl (fun ls hl => ?_)
        refine lv_aload_n hx hb dX8_readsDigits_48 rfl (lv_at hl 1 rfl) ?_
        refine lv_dup hx hb dX8_readsDigits_49 rfl ?_
        refine va_get (D := (dC, dI)) (ci := 7) (C := RX8) (T := TX8) (N := 12) hx hb hts iX8_readsDigits_X8 hown hK hP 0 rfl rfl 7 (by decide) (hts _ (List.mem_of_getElem? (i := 2) rfl)) (fun _ h9 => h9) rfl dX8_readsDigits_50 ?_
        refine lv_iconst (v := 1) hx hb dX8_readsDigits_53 (by decide) ?_
        refine lv_iadd hx hb dX8_readsDigits_54 ?_
        refine va_put (D := (dC, dI)) (ci := 7) (C := RX8) (T := TX8) (N := 12) (ty := .int) hx hb hts iX8_readsDigits_X8 tyX8 tyX8_ok nmX8 hown hK hP hD hS 0 rfl rfl 7 (by decide) (hts _ (List.mem_of_getElem? (i := 2) rfl)) (fun _ h9 => h9) rfl (by decide +kernel) rfl rfl (Nat.le_of_ble_eq_true rfl) dX8_readsDigits_55 (fun H locs hP hD hS => ?_)
        have hP : va_P (dC, dI) vwCl [(a_t, .inr (7, [.int v_t_thrown, .ref a_t_state, .ref a_t_kept, .ref a_t_stack, .int v_t_saved, .ref a_t_text, .int v_t_textLength, .int (v_t_place_L7 + 1), .int v_t_sign, .int v_t_readLetters, .int v_t_readLength, .int (((10 * v_t_readNumber_L7) + r35) - 48)])), (a_t_text, .inl (cA, 120, .inl f_t_text))] H := hP
        have hD : va_D A [(a_t, .inr (7, [.int v_t_thrown, .ref a_t_state, .ref a_t_kept, .ref a_t_stack, .int v_t_saved, .ref a_t_text, .int v_t_textLength, .int (v_t_place_L7 + 1), .int v_t_sign, .int v_t_readLetters, .int v_t_readLength, .int (((10 * v_t_readNumber_L7) + r35) - 48)])), (a_t_text, .inl (cA, 120, .inl f_t_text))] := hD
        refine lv_goto (tgt := 7) hx hb dX8_readsDigits_58 (by decide) ?_
        exact ih _ _ _ hm _ _ (hP.sub [0, 1] rfl) (hD.sub [0, 1] (by decide) rfl) hS _ (lv_sub hl [1, 2, 0] rfl)
set_option maxHeartbeats 4000000 in
set_option maxRecDepth 100000 in
theorem kX8_readsDigits (l : Launch) (dC : Nat → ClassId) (dI : Nat → Nat → Nat) (cA : ClassId) (a_t a_t_state a_t_kept a_t_stack a_t_text : Nat) (v_t_thrown v_t_saved v_t_textLength v_t_place v_t_sign v_t_readLetters v_t_readLength v_t_readNumber : Int32) (f_t_text : Nat → Int32) (p1 : Int32) (sz : Nat) (r o_v_t_place o_v_t_readNumber : Int32) (hm : (mX8_readsDigits v_t_textLength v_t_place f_t_text p1) = some (r, o_v_t_place, o_v_t_readNumber)) : Met l yX8_readsDigits wsX8_readsDigits rmX8_readsDigits (mpc (dC, dI) [(cA, .int)] (wX8_readsDigits cA a_t a_t_state a_t_kept a_t_stack a_t_text v_t_thrown v_t_saved v_t_textLength v_t_place v_t_sign v_t_readLetters v_t_readLength v_t_readNumber f_t_text) [.ref a_t, .int p1] sz) (mqi (dC, dI) [(cA, .int)] (va_A (wX8_readsDigits cA a_t a_t_state a_t_kept a_t_stack a_t_text v_t_thrown v_t_saved v_t_textLength v_t_place v_t_sign v_t_readLetters v_t_readLength v_t_readNumber f_t_text) sz) (wX8_readsDigits cA a_t a_t_state a_t_kept a_t_stack a_t_text v_t_thrown v_t_saved v_t_textLength o_v_t_place v_t_sign v_t_readLetters v_t_readLength o_v_t_readNumber f_t_text) (fun x => x = r ∧ nbr r)) 0 0 (va_A (wX8_readsDigits cA a_t a_t_state a_t_kept a_t_stack a_t_text v_t_thrown v_t_saved v_t_textLength v_t_place v_t_sign v_t_readLetters v_t_readLength v_t_readNumber f_t_text) sz) := by
  unfold mX8_readsDigits at hm
  refine mu_ofW (Qc := fun A => mqi (dC, dI) [(cA, .int)] A (wX8_readsDigits cA a_t a_t_state a_t_kept a_t_stack a_t_text v_t_thrown v_t_saved v_t_textLength o_v_t_place v_t_sign v_t_readLetters v_t_readLength o_v_t_readNumber f_t_text) (fun x => x = r ∧ nbr r)) (cc := cX8_readsDigits) (maxL := 3) (ret := (some .boolean)) (own := RX8) (by decide) rfl rfl (Nat.le_of_ble_eq_true rfl) ?_
  intro p e s m args below meth c hx hb hr hts hown hlocks hml hin A hA hP hD hS hK ls hl
  have hl : lv_has ls 3 [(0, .ref a_t), (1, .int p1)] := hl
  have hP : va_P (dC, dI) vwCl [(a_t, .inr (7, [.int v_t_thrown, .ref a_t_state, .ref a_t_kept, .ref a_t_stack, .int v_t_saved, .ref a_t_text, .int v_t_textLength, .int v_t_place, .int v_t_sign, .int v_t_readLetters, .int v_t_readLength, .int v_t_readNumber])), (a_t_text, .inl (cA, 120, .inl f_t_text))] s.heap := hP
  have hD : va_D A [(a_t, .inr (7, [.int v_t_thrown, .ref a_t_state, .ref a_t_kept, .ref a_t_stack, .int v_t_saved, .ref a_t_text, .int v_t_textLength, .int v_t_place, .int v_t_sign, .int v_t_readLetters, .int v_t_readLength, .int v_t_readNumber])), (a_t_text, .inl (cA, 120, .inl f_t_text))] := hD
  refine lv_aload_n hx hb dX8_readsDigits_0 rfl (lv_at hl 0 rfl) ?_
  refine lv_iconst (v := 0) hx hb dX8_readsDigits_1 (by decide) ?_
  refine va_put (D := (dC, dI)) (ci := 7) (C := RX8) (T := TX8) (N := 12) (ty := .int) hx hb hts iX8_readsDigits_X8 tyX8 tyX8_ok nmX8 hown hK hP hD hS 0 rfl rfl 11 (by decide) (hts _ (List.mem_of_getElem? (i := 1) rfl)) (fun _ h9 => h9) rfl (by decide +kernel) rfl rfl (Nat.le_of_ble_eq_true rfl) dX8_readsDigits_2 (fun H locs hP hD hS => ?_)
  have hP : va_P (dC, dI) vwCl [(a_t, .inr (7, [.int v_t_thrown, .ref a_t_state, .ref a_t_kept, .ref a_t_stack, .int v_t_saved, .ref a_t_text, .int v_t_textLength, .int v_t_place, .int v_t_sign, .int v_t_readLetters, .int v_t_readLength, .int 0])), (a_t_text, .inl (cA, 120, .inl f_t_text))] H := hP
  have hD : va_D A [(a_t, .inr (7, [.int v_t_thrown, .ref a_t_state, .ref a_t_kept, .ref a_t_stack, .int v_t_saved, .ref a_t_text, .int v_t_textLength, .int v_t_place, .int v_t_sign, .int v_t_readLetters, .int v_t_readLength, .int 0])), (a_t_text, .inl (cA, 120, .inl f_t_text))] := hD
  refine lv_iconst (v := 0) hx hb dX8_readsDigits_5 (by decide) ?_
  refine lv_istore_n (lv' := [(2, .int 0), (0, .ref a_t), (1, .int p1)]) hx hb dX8_readsDigits_6 rfl hl (by decide) rfl (fun ls hl => ?_)
  obtain ⟨⟨y2_7, v_t_place_E7, v_t_readNumber_E7⟩, e7, hm⟩ := bs hm
  try dsimp only at hm
  refine wX8_readsDigits_L7 dC dI cA a_t a_t_state a_t_kept a_t_stack a_t_text v_t_thrown v_t_saved v_t_textLength v_t_sign v_t_readLetters v_t_readLength f_t_text p1 p1 y2_7 v_t_place_E7 v_t_readNumber_E7 hx hb hml hown hts hA hK ?_ FU _ _ _ e7 _ _ (hP.sub [0, 1] rfl) (hD.sub [0, 1] (by decide) rfl) hS _ (lv_sub hl [1, 2, 0] rfl)
  · intro H locs hP hD hS ls hl
    refine lv_iload_n hx hb dX8_readsDigits_61 rfl (lv_at hl 2 rfl) ?_
    refine lv_if_le (tgt := 69) hx hb dX8_readsDigits_62 (by decide) (fun c62 => ?_) (fun c62 => ?_)
    · try simp only [if_pos c62] at hm
      refine lv_iconst (v := 0) hx hb dX8_readsDigits_69 (by decide) ?_
      cases hm
      exact mu_iret hx hb hr rfl ⟨rfl, rfl⟩ hP hD hS hK [0, 1] rfl (by decide) dX8_readsDigits_70 hlocks
    · try simp only [if_neg c62] at hm
      refine lv_iconst (v := 1) hx hb dX8_readsDigits_65 (by decide) ?_
      refine lv_goto (tgt := 70) hx hb dX8_readsDigits_66 (by decide) ?_
      cases hm
      exact mu_iret hx hb hr rfl ⟨rfl, rfl⟩ hP hD hS hK [0, 1] rfl (by decide) dX8_readsDigits_70 hlocks
def mX8_readsCommand_J135 (x1_135 : Int32) (v_t_place_J135 : Int32) (v_t_sign_J135 : Int32) (v_t_readLetters_J135 : Int32) (v_t_readLength_J135 : Int32) (v_t_readNumber_J135 : Int32) (v_t_textLength : Int32) (f_t_text : Nat → Int32) : Option (Int32 × Int32 × Int32 × Int32 × Int32 × Int32) :=
  (if x1_135 = 0 then
    some (0, v_t_place_J135, v_t_sign_J135, v_t_readLetters_J135, v_t_readLength_J135, v_t_readNumber_J135)
  else
    ((mX8_next v_t_textLength v_t_place_J135 f_t_text).bind fun r140 =>
    (if r140 = 59 then
      some (1, (v_t_place_J135 + 1), v_t_sign_J135, v_t_readLetters_J135, v_t_readLength_J135, v_t_readNumber_J135)
    else
      some (0, v_t_place_J135, v_t_sign_J135, v_t_readLetters_J135, v_t_readLength_J135, v_t_readNumber_J135))))
def mX8_readsCommand_J116 (x1_116 : Int32) (v_t_place_J116 : Int32) (v_t_sign_J116 : Int32) (v_t_readLetters_J116 : Int32) (v_t_readLength_J116 : Int32) (v_t_readNumber_J116 : Int32) (v_t_textLength : Int32) (f_t_text : Nat → Int32) : Option (Int32 × Int32 × Int32 × Int32 × Int32 × Int32) :=
  (if x1_116 = 0 then
    mX8_readsCommand_J135 x1_116 v_t_place_J116 v_t_sign_J116 v_t_readLetters_J116 v_t_readLength_J116 v_t_readNumber_J116 v_t_textLength f_t_text
  else
    (if v_t_sign_J116 = 43 then
      ((mX8_readsDigits v_t_textLength v_t_place_J116 f_t_text 2).bind fun (r131, v_t_place_131, v_t_readNumber_131) =>
      mX8_readsCommand_J135 x1_116 v_t_place_131 v_t_sign_J116 v_t_readLetters_J116 v_t_readLength_J116 v_t_readNumber_131 v_t_textLength f_t_text)
    else
      mX8_readsCommand_J135 x1_116 v_t_place_J116 v_t_sign_J116 v_t_readLetters_J116 v_t_readLength_J116 v_t_readNumber_J116 v_t_textLength f_t_text))
def mX8_readsCommand_J64 (v_t_sign_J64 : Int32) (v_t_place_J64 : Int32) (v_t_readLetters_J64 : Int32) (v_t_readLength_J64 : Int32) (v_t_readNumber_J64 : Int32) (v_t_textLength : Int32) (f_t_text : Nat → Int32) : Option (Int32 × Int32 × Int32 × Int32 × Int32 × Int32) :=
  (if v_t_sign_J64 = 42 then
    mX8_readsCommand_J116 1 (v_t_place_J64 + 1) v_t_sign_J64 v_t_readLetters_J64 v_t_readLength_J64 v_t_readNumber_J64 v_t_textLength f_t_text
  else
    (if v_t_sign_J64 = 61 then
      ((mX8_readsDigits v_t_textLength (v_t_place_J64 + 1) f_t_text 1).bind fun (r94, v_t_place_94, v_t_readNumber_94) =>
      mX8_readsCommand_J116 (if r94 = 0 then (0 : Int32) else 1) v_t_place_94 v_t_sign_J64 v_t_readLetters_J64 v_t_readLength_J64 v_t_readNumber_94 v_t_textLength f_t_text)
    else
      ((mX8_readsName v_t_textLength (v_t_place_J64 + 1) f_t_text).bind fun (r104, v_t_place_104, v_t_readLetters_104, v_t_readLength_104) =>
      mX8_readsCommand_J116 (if r104 = 0 then (0 : Int32) else 1) v_t_place_104 v_t_sign_J64 v_t_readLetters_104 v_t_readLength_104 v_t_readNumber_J64 v_t_textLength f_t_text)))
def mX8_readsCommand (v_t_textLength : Int32) (v_t_place : Int32) (v_t_readLetters : Int32) (v_t_readLength : Int32) (v_t_readNumber : Int32) (f_t_text : Nat → Int32) : Option (Int32 × Int32 × Int32 × Int32 × Int32 × Int32) :=
  ((mX8_next v_t_textLength v_t_place f_t_text).bind fun r2 =>
  (if r2 = 43 then
    mX8_readsCommand_J64 r2 v_t_place v_t_readLetters v_t_readLength v_t_readNumber v_t_textLength f_t_text
  else
    (if r2 = 45 then
      mX8_readsCommand_J64 r2 v_t_place v_t_readLetters v_t_readLength v_t_readNumber v_t_textLength f_t_text
    else
      (if r2 = 60 then
        mX8_readsCommand_J64 r2 v_t_place v_t_readLetters v_t_readLength v_t_readNumber v_t_textLength f_t_text
      else
        (if r2 = 62 then
          mX8_readsCommand_J64 r2 v_t_place v_t_readLetters v_t_readLength v_t_readNumber v_t_textLength f_t_text
        else
          (if r2 = 61 then
            mX8_readsCommand_J64 r2 v_t_place v_t_readLetters v_t_readLength v_t_readNumber v_t_textLength f_t_text
          else
            (if r2 = 42 then
              mX8_readsCommand_J64 r2 v_t_place v_t_readLetters v_t_readLength v_t_readNumber v_t_textLength f_t_text
            else
              some (0, v_t_place, r2, v_t_readLetters, v_t_readLength, v_t_readNumber))))))))
abbrev rmX8_readsCommand : Room := { frames := 2, cells := 0, slots := 0, locals := 44 }
abbrev wX8_readsCommand (cA : ClassId) (a_t a_t_state a_t_kept a_t_stack a_t_text : Nat) (v_t_thrown v_t_saved v_t_textLength v_t_place v_t_sign v_t_readLetters v_t_readLength v_t_readNumber : Int32) (f_t_text : Nat → Int32) : va_W := [(a_t, .inr (7, [.int v_t_thrown, .ref a_t_state, .ref a_t_kept, .ref a_t_stack, .int v_t_saved, .ref a_t_text, .int v_t_textLength, .int v_t_place, .int v_t_sign, .int v_t_readLetters, .int v_t_readLength, .int v_t_readNumber])), (a_t_text, .inl (cA, 120, .inl f_t_text))]
theorem iX8_readsCommand_X8 : ∀ w ∈ wsX80, w ∈ wsX8_readsCommand := (fun _ h => List.mem_cons_of_mem _ (List.mem_append_right _ h))
theorem hdX8_readsCommand : yX8_readsCommand.cls = RX8 ∧ yX8_readsCommand.cls ≠ "java/lang/invoke/MethodHandle" ∧ yX8_readsCommand.cls ≠ "java/lang/invoke/VarHandle" ∧ (parseMethodDescriptor yX8_readsCommand.desc).map (fun d => d.parameters.length) = some 0 := by decide +kernel
set_option maxHeartbeats 4000000 in
set_option maxRecDepth 100000 in
theorem jX8_readsCommand_J135 {p : Program} {l : Launch} {e : Env} {s : State} {m : MethodId} {args : Array Value} {below : List Frame} {meth : Method} {c : Code} {A : Nat → Prop} (dC : Nat → ClassId) (dI : Nat → Nat → Nat) (cA : ClassId) (a_t a_t_state a_t_kept a_t_stack a_t_text : Nat) (v_t_thrown v_t_saved v_t_textLength : Int32) (f_t_text : Nat → Int32) (x1_135 v_t_place_J135 v_t_sign_J135 v_t_readLetters_J135 v_t_readLength_J135 v_t_readNumber_J135 r o_v_t_place o_v_t_sign o_v_t_readLetters o_v_t_readLength o_v_t_readNumber : Int32) (hx : p.tables.exec = Jvm.exec) (hb : c.code = cX8_readsCommand) (hr : meth.sig.returnType = (some .boolean)) (hml : c.maxLocals = 2) (hown : s.vm.findClass RX8 = some m.cls) (hts : ∀ w ∈ wsX8_readsCommand, w.before args s = true) (hlocks : meth.locks = false) (hA : ∀ q, s.heap.size ≤ q → A q) (hK : va_K (dC, dI) vwCl [(cA, .int)] s) (hm : mX8_readsCommand_J135 x1_135 v_t_place_J135 v_t_sign_J135 v_t_readLetters_J135 v_t_readLength_J135 v_t_readNumber_J135 v_t_textLength f_t_text = some (r, o_v_t_place, o_v_t_sign, o_v_t_readLetters, o_v_t_readLength, o_v_t_readNumber)) (H : Heap) (locs : List Loc) (hP : va_P (dC, dI) vwCl [(a_t, .inr (7, [.int v_t_thrown, .ref a_t_state, .ref a_t_kept, .ref a_t_stack, .int v_t_saved, .ref a_t_text, .int v_t_textLength, .int v_t_place_J135, .int v_t_sign_J135, .int v_t_readLetters_J135, .int v_t_readLength_J135, .int v_t_readNumber_J135])), (a_t_text, .inl (cA, 120, .inl f_t_text))] H) (hD : va_D A [(a_t, .inr (7, [.int v_t_thrown, .ref a_t_state, .ref a_t_kept, .ref a_t_stack, .int v_t_saved, .ref a_t_text, .int v_t_textLength, .int v_t_place_J135, .int v_t_sign_J135, .int v_t_readLetters_J135, .int v_t_readLength_J135, .int v_t_readNumber_J135])), (a_t_text, .inl (cA, 120, .inl f_t_text))]) (hS : va_S A s.heap H locs) (ls : Array Slot) (hl : lv_has ls 2 [(0, .ref a_t), (1, .int x1_135)]) :
    W p l e (headSpec wsX8_readsCommand rmX8_readsCommand).room s m args below meth c H locs 0 0 (MQ below (mqi (dC, dI) [(cA, .int)] A (wX8_readsCommand cA a_t a_t_state a_t_kept a_t_stack a_t_text v_t_thrown v_t_saved v_t_textLength o_v_t_place o_v_t_sign o_v_t_readLetters o_v_t_readLength o_v_t_readNumber f_t_text) (fun x => x = r ∧ nbr r)) args s 0 0 A) (F0 m 135 ls []) := by
  unfold mX8_readsCommand_J135 at hm
  refine lv_iload_n hx hb dX8_readsCommand_135 rfl (lv_at hl 1 rfl) ?_
  refine lv_if_eq (tgt := 148) hx hb dX8_readsCommand_136 (by decide) (fun c136 => ?_) (fun c136 => ?_)
  · rw [if_pos c136] at hm
    refine lv_iconst (v := 0) hx hb dX8_readsCommand_148 (by decide) ?_
    cases hm
    exact mu_iret hx hb hr rfl ⟨rfl, rfl⟩ hP hD hS hK [0, 1] rfl (by decide) dX8_readsCommand_149 hlocks
  · rw [if_neg c136] at hm
    refine lv_aload_n hx hb dX8_readsCommand_139 rfl (lv_at hl 0 rfl) ?_
    obtain ⟨r140, e140, hm⟩ := bs hm
    try dsimp only at hm
    refine ro_callVe ⟨hx, hb, hml, hown, hts⟩ (kX8_next l dC dI cA a_t a_t_state a_t_kept a_t_stack a_t_text v_t_thrown v_t_saved v_t_textLength v_t_place_J135 v_t_sign_J135 v_t_readLetters_J135 v_t_readLength_J135 v_t_readNumber_J135 f_t_text r140 e140) (cwV 0 hts gX8_readsCommand_X8_next rfl rfl rfl hdX8_next ⟨Nat.le_of_ble_eq_true rfl, Nat.le_of_ble_eq_true rfl⟩) (hP.sub [0, 1] rfl) hK rfl rfl rfl hl.1 rfl (Nat.le_of_ble_eq_true rfl) dX8_readsCommand_140 ⟨Nat.zero_le _, Nat.zero_le _⟩ ?_
    refine lv_bipush (v := 59) hx hb dX8_readsCommand_143 (by decide) ?_
    refine lv_icmp_eq (tgt := 150) hx hb dX8_readsCommand_145 (by decide) (fun c145 => ?_) (fun c145 => ?_)
    · rw [if_pos c145] at hm
      refine lv_aload_n hx hb dX8_readsCommand_150 rfl (lv_at hl 0 rfl) ?_
      refine lv_dup hx hb dX8_readsCommand_151 rfl ?_
      refine va_get (D := (dC, dI)) (ci := 7) (C := RX8) (T := TX8) (N := 12) hx hb hts iX8_readsCommand_X8 hown hK hP 0 rfl rfl 7 (by decide) (hts _ (List.mem_of_getElem? (i := 2) rfl)) (fun _ h9 => h9) rfl dX8_readsCommand_152 ?_
      refine lv_iconst (v := 1) hx hb dX8_readsCommand_155 (by decide) ?_
      refine lv_iadd hx hb dX8_readsCommand_156 ?_
      refine va_put (D := (dC, dI)) (ci := 7) (C := RX8) (T := TX8) (N := 12) (ty := .int) hx hb hts iX8_readsCommand_X8 tyX8 tyX8_ok nmX8 hown hK hP hD hS 0 rfl rfl 7 (by decide) (hts _ (List.mem_of_getElem? (i := 2) rfl)) (fun _ h9 => h9) rfl (by decide +kernel) rfl rfl (Nat.le_of_ble_eq_true rfl) dX8_readsCommand_157 (fun H locs hP hD hS => ?_)
      have hP : va_P (dC, dI) vwCl [(a_t, .inr (7, [.int v_t_thrown, .ref a_t_state, .ref a_t_kept, .ref a_t_stack, .int v_t_saved, .ref a_t_text, .int v_t_textLength, .int (v_t_place_J135 + 1), .int v_t_sign_J135, .int v_t_readLetters_J135, .int v_t_readLength_J135, .int v_t_readNumber_J135])), (a_t_text, .inl (cA, 120, .inl f_t_text))] H := hP
      have hD : va_D A [(a_t, .inr (7, [.int v_t_thrown, .ref a_t_state, .ref a_t_kept, .ref a_t_stack, .int v_t_saved, .ref a_t_text, .int v_t_textLength, .int (v_t_place_J135 + 1), .int v_t_sign_J135, .int v_t_readLetters_J135, .int v_t_readLength_J135, .int v_t_readNumber_J135])), (a_t_text, .inl (cA, 120, .inl f_t_text))] := hD
      refine lv_iconst (v := 1) hx hb dX8_readsCommand_160 (by decide) ?_
      cases hm
      exact mu_iret hx hb hr rfl ⟨rfl, rfl⟩ hP hD hS hK [0, 1] rfl (by decide) dX8_readsCommand_161 hlocks
    · rw [if_neg c145] at hm
      refine lv_iconst (v := 0) hx hb dX8_readsCommand_148 (by decide) ?_
      cases hm
      exact mu_iret hx hb hr rfl ⟨rfl, rfl⟩ hP hD hS hK [0, 1] rfl (by decide) dX8_readsCommand_149 hlocks
set_option maxHeartbeats 4000000 in
set_option maxRecDepth 100000 in
theorem jX8_readsCommand_J116 {p : Program} {l : Launch} {e : Env} {s : State} {m : MethodId} {args : Array Value} {below : List Frame} {meth : Method} {c : Code} {A : Nat → Prop} (dC : Nat → ClassId) (dI : Nat → Nat → Nat) (cA : ClassId) (a_t a_t_state a_t_kept a_t_stack a_t_text : Nat) (v_t_thrown v_t_saved v_t_textLength : Int32) (f_t_text : Nat → Int32) (x1_116 v_t_place_J116 v_t_sign_J116 v_t_readLetters_J116 v_t_readLength_J116 v_t_readNumber_J116 r o_v_t_place o_v_t_sign o_v_t_readLetters o_v_t_readLength o_v_t_readNumber : Int32) (hx : p.tables.exec = Jvm.exec) (hb : c.code = cX8_readsCommand) (hr : meth.sig.returnType = (some .boolean)) (hml : c.maxLocals = 2) (hown : s.vm.findClass RX8 = some m.cls) (hts : ∀ w ∈ wsX8_readsCommand, w.before args s = true) (hlocks : meth.locks = false) (hA : ∀ q, s.heap.size ≤ q → A q) (hK : va_K (dC, dI) vwCl [(cA, .int)] s) (hm : mX8_readsCommand_J116 x1_116 v_t_place_J116 v_t_sign_J116 v_t_readLetters_J116 v_t_readLength_J116 v_t_readNumber_J116 v_t_textLength f_t_text = some (r, o_v_t_place, o_v_t_sign, o_v_t_readLetters, o_v_t_readLength, o_v_t_readNumber)) (H : Heap) (locs : List Loc) (hP : va_P (dC, dI) vwCl [(a_t, .inr (7, [.int v_t_thrown, .ref a_t_state, .ref a_t_kept, .ref a_t_stack, .int v_t_saved, .ref a_t_text, .int v_t_textLength, .int v_t_place_J116, .int v_t_sign_J116, .int v_t_readLetters_J116, .int v_t_readLength_J116, .int v_t_readNumber_J116])), (a_t_text, .inl (cA, 120, .inl f_t_text))] H) (hD : va_D A [(a_t, .inr (7, [.int v_t_thrown, .ref a_t_state, .ref a_t_kept, .ref a_t_stack, .int v_t_saved, .ref a_t_text, .int v_t_textLength, .int v_t_place_J116, .int v_t_sign_J116, .int v_t_readLetters_J116, .int v_t_readLength_J116, .int v_t_readNumber_J116])), (a_t_text, .inl (cA, 120, .inl f_t_text))]) (hS : va_S A s.heap H locs) (ls : Array Slot) (hl : lv_has ls 2 [(0, .ref a_t), (1, .int x1_116)]) :
    W p l e (headSpec wsX8_readsCommand rmX8_readsCommand).room s m args below meth c H locs 0 0 (MQ below (mqi (dC, dI) [(cA, .int)] A (wX8_readsCommand cA a_t a_t_state a_t_kept a_t_stack a_t_text v_t_thrown v_t_saved v_t_textLength o_v_t_place o_v_t_sign o_v_t_readLetters o_v_t_readLength o_v_t_readNumber f_t_text) (fun x => x = r ∧ nbr r)) args s 0 0 A) (F0 m 116 ls []) := by
  unfold mX8_readsCommand_J116 at hm
  refine lv_iload_n hx hb dX8_readsCommand_116 rfl (lv_at hl 1 rfl) ?_
  refine lv_if_eq (tgt := 135) hx hb dX8_readsCommand_117 (by decide) (fun c117 => ?_) (fun c117 => ?_)
  · rw [if_pos c117] at hm
    exact jX8_readsCommand_J135 dC dI cA a_t a_t_state a_t_kept a_t_stack a_t_text v_t_thrown v_t_saved v_t_textLength f_t_text x1_116 v_t_place_J116 v_t_sign_J116 v_t_readLetters_J116 v_t_readLength_J116 v_t_readNumber_J116 _ _ _ _ _ _ hx hb hr hml hown hts hlocks hA hK hm _ _ (hP.sub [0, 1] rfl) (hD.sub [0, 1] (by decide) rfl) hS _ (lv_sub hl [0, 1] rfl)
  · rw [if_neg c117] at hm
    refine lv_aload_n hx hb dX8_readsCommand_120 rfl (lv_at hl 0 rfl) ?_
    refine va_get (D := (dC, dI)) (ci := 7) (C := RX8) (T := TX8) (N := 12) hx hb hts iX8_readsCommand_X8 hown hK hP 0 rfl rfl 8 (by decide) (hts _ (List.mem_of_getElem? (i := 1) rfl)) (fun _ h9 => h9) rfl dX8_readsCommand_121 ?_
    refine lv_bipush (v := 43) hx hb dX8_readsCommand_124 (by decide) ?_
    refine lv_icmp_ne (tgt := 135) hx hb dX8_readsCommand_126 (by decide) (fun c126 => ?_) (fun c126 => ?_)
    · rw [if_neg c126] at hm
      exact jX8_readsCommand_J135 dC dI cA a_t a_t_state a_t_kept a_t_stack a_t_text v_t_thrown v_t_saved v_t_textLength f_t_text x1_116 v_t_place_J116 v_t_sign_J116 v_t_readLetters_J116 v_t_readLength_J116 v_t_readNumber_J116 _ _ _ _ _ _ hx hb hr hml hown hts hlocks hA hK hm _ _ (hP.sub [0, 1] rfl) (hD.sub [0, 1] (by decide) rfl) hS _ (lv_sub hl [0, 1] rfl)
    · rw [if_pos c126] at hm
      refine lv_aload_n hx hb dX8_readsCommand_129 rfl (lv_at hl 0 rfl) ?_
      refine lv_iconst (v := 2) hx hb dX8_readsCommand_130 (by decide) ?_
      obtain ⟨⟨r131, v_t_place_131, v_t_readNumber_131⟩, e131, hm⟩ := bs hm
      try dsimp only at hm
      refine mu_callVz (wr := []) ⟨hx, hb, hml, hown, hts⟩ (kX8_readsDigits l dC dI cA a_t a_t_state a_t_kept a_t_stack a_t_text v_t_thrown v_t_saved v_t_textLength v_t_place_J116 v_t_sign_J116 v_t_readLetters_J116 v_t_readLength_J116 v_t_readNumber_J116 f_t_text 2 _ r131 v_t_place_131 v_t_readNumber_131 e131) (cwV 1 hts gX8_readsCommand_X8_readsDigits rfl rfl rfl hdX8_readsDigits ⟨Nat.le_of_ble_eq_true rfl, Nat.le_of_ble_eq_true rfl⟩) hP hD hS hA hK [0, 1] [] rfl rfl rfl rfl (by decide) rfl rfl rfl hl.1 rfl (Nat.le_of_ble_eq_true rfl) dX8_readsCommand_131 ⟨Nat.zero_le _, Nat.zero_le _⟩ (fun hb131 H locs hP hD hS => ?_)
      have hP : va_P (dC, dI) vwCl [(a_t, .inr (7, [.int v_t_thrown, .ref a_t_state, .ref a_t_kept, .ref a_t_stack, .int v_t_saved, .ref a_t_text, .int v_t_textLength, .int v_t_place_131, .int v_t_sign_J116, .int v_t_readLetters_J116, .int v_t_readLength_J116, .int v_t_readNumber_131])), (a_t_text, .inl (cA, 120, .inl f_t_text))] H := hP
      have hD : va_D A [(a_t, .inr (7, [.int v_t_thrown, .ref a_t_state, .ref a_t_kept, .ref a_t_stack, .int v_t_saved, .ref a_t_text, .int v_t_textLength, .int v_t_place_131, .int v_t_sign_J116, .int v_t_readLetters_J116, .int v_t_readLength_J116, .int v_t_readNumber_131])), (a_t_text, .inl (cA, 120, .inl f_t_text))] := hD
      refine lv_pop hx hb dX8_readsCommand_134 rfl ?_
      exact jX8_readsCommand_J135 dC dI cA a_t a_t_state a_t_kept a_t_stack a_t_text v_t_thrown v_t_saved v_t_textLength f_t_text x1_116 v_t_place_131 v_t_sign_J116 v_t_readLetters_J116 v_t_readLength_J116 v_t_readNumber_131 _ _ _ _ _ _ hx hb hr hml hown hts hlocks hA hK hm _ _ (hP.sub [0, 1] rfl) (hD.sub [0, 1] (by decide) rfl) hS _ (lv_sub hl [0, 1] rfl)
set_option maxHeartbeats 4000000 in
set_option maxRecDepth 100000 in
theorem jX8_readsCommand_J64 {p : Program} {l : Launch} {e : Env} {s : State} {m : MethodId} {args : Array Value} {below : List Frame} {meth : Method} {c : Code} {A : Nat → Prop} (dC : Nat → ClassId) (dI : Nat → Nat → Nat) (cA : ClassId) (a_t a_t_state a_t_kept a_t_stack a_t_text : Nat) (v_t_thrown v_t_saved v_t_textLength : Int32) (f_t_text : Nat → Int32) (v_t_place_J64 v_t_sign_J64 v_t_readLetters_J64 v_t_readLength_J64 v_t_readNumber_J64 r o_v_t_place o_v_t_sign o_v_t_readLetters o_v_t_readLength o_v_t_readNumber : Int32) (hx : p.tables.exec = Jvm.exec) (hb : c.code = cX8_readsCommand) (hr : meth.sig.returnType = (some .boolean)) (hml : c.maxLocals = 2) (hown : s.vm.findClass RX8 = some m.cls) (hts : ∀ w ∈ wsX8_readsCommand, w.before args s = true) (hlocks : meth.locks = false) (hA : ∀ q, s.heap.size ≤ q → A q) (hK : va_K (dC, dI) vwCl [(cA, .int)] s) (hm : mX8_readsCommand_J64 v_t_sign_J64 v_t_place_J64 v_t_readLetters_J64 v_t_readLength_J64 v_t_readNumber_J64 v_t_textLength f_t_text = some (r, o_v_t_place, o_v_t_sign, o_v_t_readLetters, o_v_t_readLength, o_v_t_readNumber)) (H : Heap) (locs : List Loc) (hP : va_P (dC, dI) vwCl [(a_t, .inr (7, [.int v_t_thrown, .ref a_t_state, .ref a_t_kept, .ref a_t_stack, .int v_t_saved, .ref a_t_text, .int v_t_textLength, .int v_t_place_J64, .int v_t_sign_J64, .int v_t_readLetters_J64, .int v_t_readLength_J64, .int v_t_readNumber_J64])), (a_t_text, .inl (cA, 120, .inl f_t_text))] H) (hD : va_D A [(a_t, .inr (7, [.int v_t_thrown, .ref a_t_state, .ref a_t_kept, .ref a_t_stack, .int v_t_saved, .ref a_t_text, .int v_t_textLength, .int v_t_place_J64, .int v_t_sign_J64, .int v_t_readLetters_J64, .int v_t_readLength_J64, .int v_t_readNumber_J64])), (a_t_text, .inl (cA, 120, .inl f_t_text))]) (hS : va_S A s.heap H locs) (ls : Array Slot) (hl : lv_has ls 2 [(0, .ref a_t)]) :
    W p l e (headSpec wsX8_readsCommand rmX8_readsCommand).room s m args below meth c H locs 0 0 (MQ below (mqi (dC, dI) [(cA, .int)] A (wX8_readsCommand cA a_t a_t_state a_t_kept a_t_stack a_t_text v_t_thrown v_t_saved v_t_textLength o_v_t_place o_v_t_sign o_v_t_readLetters o_v_t_readLength o_v_t_readNumber f_t_text) (fun x => x = r ∧ nbr r)) args s 0 0 A) (F0 m 64 ls []) := by
  unfold mX8_readsCommand_J64 at hm
  refine lv_aload_n hx hb dX8_readsCommand_64 rfl (lv_at hl 0 rfl) ?_
  refine lv_dup hx hb dX8_readsCommand_65 rfl ?_
  refine va_get (D := (dC, dI)) (ci := 7) (C := RX8) (T := TX8) (N := 12) hx hb hts iX8_readsCommand_X8 hown hK hP 0 rfl rfl 7 (by decide) (hts _ (List.mem_of_getElem? (i := 2) rfl)) (fun _ h9 => h9) rfl dX8_readsCommand_66 ?_
  refine lv_iconst (v := 1) hx hb dX8_readsCommand_69 (by decide) ?_
  refine lv_iadd hx hb dX8_readsCommand_70 ?_
  refine va_put (D := (dC, dI)) (ci := 7) (C := RX8) (T := TX8) (N := 12) (ty := .int) hx hb hts iX8_readsCommand_X8 tyX8 tyX8_ok nmX8 hown hK hP hD hS 0 rfl rfl 7 (by decide) (hts _ (List.mem_of_getElem? (i := 2) rfl)) (fun _ h9 => h9) rfl (by decide +kernel) rfl rfl (Nat.le_of_ble_eq_true rfl) dX8_readsCommand_71 (fun H locs hP hD hS => ?_)
  have hP : va_P (dC, dI) vwCl [(a_t, .inr (7, [.int v_t_thrown, .ref a_t_state, .ref a_t_kept, .ref a_t_stack, .int v_t_saved, .ref a_t_text, .int v_t_textLength, .int (v_t_place_J64 + 1), .int v_t_sign_J64, .int v_t_readLetters_J64, .int v_t_readLength_J64, .int v_t_readNumber_J64])), (a_t_text, .inl (cA, 120, .inl f_t_text))] H := hP
  have hD : va_D A [(a_t, .inr (7, [.int v_t_thrown, .ref a_t_state, .ref a_t_kept, .ref a_t_stack, .int v_t_saved, .ref a_t_text, .int v_t_textLength, .int (v_t_place_J64 + 1), .int v_t_sign_J64, .int v_t_readLetters_J64, .int v_t_readLength_J64, .int v_t_readNumber_J64])), (a_t_text, .inl (cA, 120, .inl f_t_text))] := hD
  refine lv_aload_n hx hb dX8_readsCommand_74 rfl (lv_at hl 0 rfl) ?_
  refine va_get (D := (dC, dI)) (ci := 7) (C := RX8) (T := TX8) (N := 12) hx hb hts iX8_readsCommand_X8 hown hK hP 0 rfl rfl 8 (by decide) (hts _ (List.mem_of_getElem? (i := 1) rfl)) (fun _ h9 => h9) rfl dX8_readsCommand_75 ?_
  refine lv_bipush (v := 42) hx hb dX8_readsCommand_78 (by decide) ?_
  refine lv_icmp_eq (tgt := 110) hx hb dX8_readsCommand_80 (by decide) (fun c80 => ?_) (fun c80 => ?_)
  · rw [if_pos c80] at hm
    refine lv_iconst (v := 1) hx hb dX8_readsCommand_110 (by decide) ?_
    refine lv_goto (tgt := 115) hx hb dX8_readsCommand_111 (by decide) ?_
    refine lv_istore_n (lv' := [(1, .int 1), (0, .ref a_t)]) hx hb dX8_readsCommand_115 rfl hl (by decide) rfl (fun ls hl => ?_)
    exact jX8_readsCommand_J116 dC dI cA a_t a_t_state a_t_kept a_t_stack a_t_text v_t_thrown v_t_saved v_t_textLength f_t_text 1 (v_t_place_J64 + 1) v_t_sign_J64 v_t_readLetters_J64 v_t_readLength_J64 v_t_readNumber_J64 _ _ _ _ _ _ hx hb hr hml hown hts hlocks hA hK hm _ _ (hP.sub [0, 1] rfl) (hD.sub [0, 1] (by decide) rfl) hS _ (lv_sub hl [1, 0] rfl)
  · rw [if_neg c80] at hm
    refine lv_aload_n hx hb dX8_readsCommand_83 rfl (lv_at hl 0 rfl) ?_
    refine va_get (D := (dC, dI)) (ci := 7) (C := RX8) (T := TX8) (N := 12) hx hb hts iX8_readsCommand_X8 hown hK hP 0 rfl rfl 8 (by decide) (hts _ (List.mem_of_getElem? (i := 1) rfl)) (fun _ h9 => h9) rfl dX8_readsCommand_84 ?_
    refine lv_bipush (v := 61) hx hb dX8_readsCommand_87 (by decide) ?_
    refine lv_icmp_ne (tgt := 103) hx hb dX8_readsCommand_89 (by decide) (fun c89 => ?_) (fun c89 => ?_)
    · rw [if_neg c89] at hm
      refine lv_aload_n hx hb dX8_readsCommand_103 rfl (lv_at hl 0 rfl) ?_
      obtain ⟨⟨r104, v_t_place_104, v_t_readLetters_104, v_t_readLength_104⟩, e104, hm⟩ := bs hm
      try dsimp only at hm
      refine mu_callVz (wr := []) ⟨hx, hb, hml, hown, hts⟩ (kX8_readsName l dC dI cA a_t a_t_state a_t_kept a_t_stack a_t_text v_t_thrown v_t_saved v_t_textLength (v_t_place_J64 + 1) v_t_sign_J64 v_t_readLetters_J64 v_t_readLength_J64 v_t_readNumber_J64 f_t_text _ r104 v_t_place_104 v_t_readLetters_104 v_t_readLength_104 e104) (cwV 0 hts gX8_readsCommand_X8_readsName rfl rfl rfl hdX8_readsName ⟨Nat.le_of_ble_eq_true rfl, Nat.le_of_ble_eq_true rfl⟩) hP hD hS hA hK [0, 1] [] rfl rfl rfl rfl (by decide) rfl rfl rfl hl.1 rfl (Nat.le_of_ble_eq_true rfl) dX8_readsCommand_104 ⟨Nat.zero_le _, Nat.zero_le _⟩ (fun hb104 H locs hP hD hS => ?_)
      have hP : va_P (dC, dI) vwCl [(a_t, .inr (7, [.int v_t_thrown, .ref a_t_state, .ref a_t_kept, .ref a_t_stack, .int v_t_saved, .ref a_t_text, .int v_t_textLength, .int v_t_place_104, .int v_t_sign_J64, .int v_t_readLetters_104, .int v_t_readLength_104, .int v_t_readNumber_J64])), (a_t_text, .inl (cA, 120, .inl f_t_text))] H := hP
      have hD : va_D A [(a_t, .inr (7, [.int v_t_thrown, .ref a_t_state, .ref a_t_kept, .ref a_t_stack, .int v_t_saved, .ref a_t_text, .int v_t_textLength, .int v_t_place_104, .int v_t_sign_J64, .int v_t_readLetters_104, .int v_t_readLength_104, .int v_t_readNumber_J64])), (a_t_text, .inl (cA, 120, .inl f_t_text))] := hD
      refine lv_if_eq (tgt := 114) hx hb dX8_readsCommand_107 (by decide) (fun c107 => ?_) (fun c107 => ?_)
      · try simp only [if_pos c107] at hm
        refine lv_iconst (v := 0) hx hb dX8_readsCommand_114 (by decide) ?_
        refine lv_istore_n (lv' := [(1, .int 0), (0, .ref a_t)]) hx hb dX8_readsCommand_115 rfl hl (by decide) rfl (fun ls hl => ?_)
        exact jX8_readsCommand_J116 dC dI cA a_t a_t_state a_t_kept a_t_stack a_t_text v_t_thrown v_t_saved v_t_textLength f_t_text 0 v_t_place_104 v_t_sign_J64 v_t_readLetters_104 v_t_readLength_104 v_t_readNumber_J64 _ _ _ _ _ _ hx hb hr hml hown hts hlocks hA hK hm _ _ (hP.sub [0, 1] rfl) (hD.sub [0, 1] (by decide) rfl) hS _ (lv_sub hl [1, 0] rfl)
      · try simp only [if_neg c107] at hm
        refine lv_iconst (v := 1) hx hb dX8_readsCommand_110 (by decide) ?_
        refine lv_goto (tgt := 115) hx hb dX8_readsCommand_111 (by decide) ?_
        refine lv_istore_n (lv' := [(1, .int 1), (0, .ref a_t)]) hx hb dX8_readsCommand_115 rfl hl (by decide) rfl (fun ls hl => ?_)
        exact jX8_readsCommand_J116 dC dI cA a_t a_t_state a_t_kept a_t_stack a_t_text v_t_thrown v_t_saved v_t_textLength f_t_text 1 v_t_place_104 v_t_sign_J64 v_t_readLetters_104 v_t_readLength_104 v_t_readNumber_J64 _ _ _ _ _ _ hx hb hr hml hown hts hlocks hA hK hm _ _ (hP.sub [0, 1] rfl) (hD.sub [0, 1] (by decide) rfl) hS _ (lv_sub hl [1, 0] rfl)
    · rw [if_pos c89] at hm
      refine lv_aload_n hx hb dX8_readsCommand_92 rfl (lv_at hl 0 rfl) ?_
      refine lv_iconst (v := 1) hx hb dX8_readsCommand_93 (by decide) ?_
      obtain ⟨⟨r94, v_t_place_94, v_t_readNumber_94⟩, e94, hm⟩ := bs hm
      try dsimp only at hm
      refine mu_callVz (wr := []) ⟨hx, hb, hml, hown, hts⟩ (kX8_readsDigits l dC dI cA a_t a_t_state a_t_kept a_t_stack a_t_text v_t_thrown v_t_saved v_t_textLength (v_t_place_J64 + 1) v_t_sign_J64 v_t_readLetters_J64 v_t_readLength_J64 v_t_readNumber_J64 f_t_text 1 _ r94 v_t_place_94 v_t_readNumber_94 e94) (cwV 1 hts gX8_readsCommand_X8_readsDigits rfl rfl rfl hdX8_readsDigits ⟨Nat.le_of_ble_eq_true rfl, Nat.le_of_ble_eq_true rfl⟩) hP hD hS hA hK [0, 1] [] rfl rfl rfl rfl (by decide) rfl rfl rfl hl.1 rfl (Nat.le_of_ble_eq_true rfl) dX8_readsCommand_94 ⟨Nat.zero_le _, Nat.zero_le _⟩ (fun hb94 H locs hP hD hS => ?_)
      have hP : va_P (dC, dI) vwCl [(a_t, .inr (7, [.int v_t_thrown, .ref a_t_state, .ref a_t_kept, .ref a_t_stack, .int v_t_saved, .ref a_t_text, .int v_t_textLength, .int v_t_place_94, .int v_t_sign_J64, .int v_t_readLetters_J64, .int v_t_readLength_J64, .int v_t_readNumber_94])), (a_t_text, .inl (cA, 120, .inl f_t_text))] H := hP
      have hD : va_D A [(a_t, .inr (7, [.int v_t_thrown, .ref a_t_state, .ref a_t_kept, .ref a_t_stack, .int v_t_saved, .ref a_t_text, .int v_t_textLength, .int v_t_place_94, .int v_t_sign_J64, .int v_t_readLetters_J64, .int v_t_readLength_J64, .int v_t_readNumber_94])), (a_t_text, .inl (cA, 120, .inl f_t_text))] := hD
      refine lv_if_eq (tgt := 114) hx hb dX8_readsCommand_97 (by decide) (fun c97 => ?_) (fun c97 => ?_)
      · try simp only [if_pos c97] at hm
        refine lv_iconst (v := 0) hx hb dX8_readsCommand_114 (by decide) ?_
        refine lv_istore_n (lv' := [(1, .int 0), (0, .ref a_t)]) hx hb dX8_readsCommand_115 rfl hl (by decide) rfl (fun ls hl => ?_)
        exact jX8_readsCommand_J116 dC dI cA a_t a_t_state a_t_kept a_t_stack a_t_text v_t_thrown v_t_saved v_t_textLength f_t_text 0 v_t_place_94 v_t_sign_J64 v_t_readLetters_J64 v_t_readLength_J64 v_t_readNumber_94 _ _ _ _ _ _ hx hb hr hml hown hts hlocks hA hK hm _ _ (hP.sub [0, 1] rfl) (hD.sub [0, 1] (by decide) rfl) hS _ (lv_sub hl [1, 0] rfl)
      · try simp only [if_neg c97] at hm
        refine lv_goto (tgt := 110) hx hb dX8_readsCommand_100 (by decide) ?_
        refine lv_iconst (v := 1) hx hb dX8_readsCommand_110 (by decide) ?_
        refine lv_goto (tgt := 115) hx hb dX8_readsCommand_111 (by decide) ?_
        refine lv_istore_n (lv' := [(1, .int 1), (0, .ref a_t)]) hx hb dX8_readsCommand_115 rfl hl (by decide) rfl (fun ls hl => ?_)
        exact jX8_readsCommand_J116 dC dI cA a_t a_t_state a_t_kept a_t_stack a_t_text v_t_thrown v_t_saved v_t_textLength f_t_text 1 v_t_place_94 v_t_sign_J64 v_t_readLetters_J64 v_t_readLength_J64 v_t_readNumber_94 _ _ _ _ _ _ hx hb hr hml hown hts hlocks hA hK hm _ _ (hP.sub [0, 1] rfl) (hD.sub [0, 1] (by decide) rfl) hS _ (lv_sub hl [1, 0] rfl)
set_option maxHeartbeats 4000000 in
set_option maxRecDepth 100000 in
theorem kX8_readsCommand (l : Launch) (dC : Nat → ClassId) (dI : Nat → Nat → Nat) (cA : ClassId) (a_t a_t_state a_t_kept a_t_stack a_t_text : Nat) (v_t_thrown v_t_saved v_t_textLength v_t_place v_t_sign v_t_readLetters v_t_readLength v_t_readNumber : Int32) (f_t_text : Nat → Int32) (sz : Nat) (r o_v_t_place o_v_t_sign o_v_t_readLetters o_v_t_readLength o_v_t_readNumber : Int32) (hm : (mX8_readsCommand v_t_textLength v_t_place v_t_readLetters v_t_readLength v_t_readNumber f_t_text) = some (r, o_v_t_place, o_v_t_sign, o_v_t_readLetters, o_v_t_readLength, o_v_t_readNumber)) : Met l yX8_readsCommand wsX8_readsCommand rmX8_readsCommand (mpc (dC, dI) [(cA, .int)] (wX8_readsCommand cA a_t a_t_state a_t_kept a_t_stack a_t_text v_t_thrown v_t_saved v_t_textLength v_t_place v_t_sign v_t_readLetters v_t_readLength v_t_readNumber f_t_text) [.ref a_t] sz) (mqi (dC, dI) [(cA, .int)] (va_A (wX8_readsCommand cA a_t a_t_state a_t_kept a_t_stack a_t_text v_t_thrown v_t_saved v_t_textLength v_t_place v_t_sign v_t_readLetters v_t_readLength v_t_readNumber f_t_text) sz) (wX8_readsCommand cA a_t a_t_state a_t_kept a_t_stack a_t_text v_t_thrown v_t_saved v_t_textLength o_v_t_place o_v_t_sign o_v_t_readLetters o_v_t_readLength o_v_t_readNumber f_t_text) (fun x => x = r ∧ nbr r)) 0 0 (va_A (wX8_readsCommand cA a_t a_t_state a_t_kept a_t_stack a_t_text v_t_thrown v_t_saved v_t_textLength v_t_place v_t_sign v_t_readLetters v_t_readLength v_t_readNumber f_t_text) sz) := by
  unfold mX8_readsCommand at hm
  refine mu_ofW (Qc := fun A => mqi (dC, dI) [(cA, .int)] A (wX8_readsCommand cA a_t a_t_state a_t_kept a_t_stack a_t_text v_t_thrown v_t_saved v_t_textLength o_v_t_place o_v_t_sign o_v_t_readLetters o_v_t_readLength o_v_t_readNumber f_t_text) (fun x => x = r ∧ nbr r)) (cc := cX8_readsCommand) (maxL := 2) (ret := (some .boolean)) (own := RX8) (by decide) rfl rfl (Nat.le_of_ble_eq_true rfl) ?_
  intro p e s m args below meth c hx hb hr hts hown hlocks hml hin A hA hP hD hS hK ls hl
  have hl : lv_has ls 2 [(0, .ref a_t)] := hl
  have hP : va_P (dC, dI) vwCl [(a_t, .inr (7, [.int v_t_thrown, .ref a_t_state, .ref a_t_kept, .ref a_t_stack, .int v_t_saved, .ref a_t_text, .int v_t_textLength, .int v_t_place, .int v_t_sign, .int v_t_readLetters, .int v_t_readLength, .int v_t_readNumber])), (a_t_text, .inl (cA, 120, .inl f_t_text))] s.heap := hP
  have hD : va_D A [(a_t, .inr (7, [.int v_t_thrown, .ref a_t_state, .ref a_t_kept, .ref a_t_stack, .int v_t_saved, .ref a_t_text, .int v_t_textLength, .int v_t_place, .int v_t_sign, .int v_t_readLetters, .int v_t_readLength, .int v_t_readNumber])), (a_t_text, .inl (cA, 120, .inl f_t_text))] := hD
  refine lv_aload_n hx hb dX8_readsCommand_0 rfl (lv_at hl 0 rfl) ?_
  refine lv_aload_n hx hb dX8_readsCommand_1 rfl (lv_at hl 0 rfl) ?_
  obtain ⟨r2, e2, hm⟩ := bs hm
  try dsimp only at hm
  refine ro_callVe ⟨hx, hb, hml, hown, hts⟩ (kX8_next l dC dI cA a_t a_t_state a_t_kept a_t_stack a_t_text v_t_thrown v_t_saved v_t_textLength v_t_place v_t_sign v_t_readLetters v_t_readLength v_t_readNumber f_t_text r2 e2) (cwV 0 hts gX8_readsCommand_X8_next rfl rfl rfl hdX8_next ⟨Nat.le_of_ble_eq_true rfl, Nat.le_of_ble_eq_true rfl⟩) (hP.sub [0, 1] rfl) hK rfl rfl rfl hl.1 rfl (Nat.le_of_ble_eq_true rfl) dX8_readsCommand_2 ⟨Nat.zero_le _, Nat.zero_le _⟩ ?_
  refine va_put (D := (dC, dI)) (ci := 7) (C := RX8) (T := TX8) (N := 12) (ty := .int) hx hb hts iX8_readsCommand_X8 tyX8 tyX8_ok nmX8 hown hK hP hD hS 0 rfl rfl 8 (by decide) (hts _ (List.mem_of_getElem? (i := 1) rfl)) (fun _ h9 => h9) rfl (by decide +kernel) rfl rfl (Nat.le_of_ble_eq_true rfl) dX8_readsCommand_5 (fun H locs hP hD hS => ?_)
  have hP : va_P (dC, dI) vwCl [(a_t, .inr (7, [.int v_t_thrown, .ref a_t_state, .ref a_t_kept, .ref a_t_stack, .int v_t_saved, .ref a_t_text, .int v_t_textLength, .int v_t_place, .int r2, .int v_t_readLetters, .int v_t_readLength, .int v_t_readNumber])), (a_t_text, .inl (cA, 120, .inl f_t_text))] H := hP
  have hD : va_D A [(a_t, .inr (7, [.int v_t_thrown, .ref a_t_state, .ref a_t_kept, .ref a_t_stack, .int v_t_saved, .ref a_t_text, .int v_t_textLength, .int v_t_place, .int r2, .int v_t_readLetters, .int v_t_readLength, .int v_t_readNumber])), (a_t_text, .inl (cA, 120, .inl f_t_text))] := hD
  refine lv_aload_n hx hb dX8_readsCommand_8 rfl (lv_at hl 0 rfl) ?_
  refine va_get (D := (dC, dI)) (ci := 7) (C := RX8) (T := TX8) (N := 12) hx hb hts iX8_readsCommand_X8 hown hK hP 0 rfl rfl 8 (by decide) (hts _ (List.mem_of_getElem? (i := 1) rfl)) (fun _ h9 => h9) rfl dX8_readsCommand_9 ?_
  refine lv_bipush (v := 43) hx hb dX8_readsCommand_12 (by decide) ?_
  refine lv_icmp_eq (tgt := 64) hx hb dX8_readsCommand_14 (by decide) (fun c14 => ?_) (fun c14 => ?_)
  · rw [if_pos c14] at hm
    exact jX8_readsCommand_J64 dC dI cA a_t a_t_state a_t_kept a_t_stack a_t_text v_t_thrown v_t_saved v_t_textLength f_t_text v_t_place r2 v_t_readLetters v_t_readLength v_t_readNumber _ _ _ _ _ _ hx hb hr hml hown hts hlocks hA hK hm _ _ (hP.sub [0, 1] rfl) (hD.sub [0, 1] (by decide) rfl) hS _ (lv_sub hl [0] rfl)
  · rw [if_neg c14] at hm
    refine lv_aload_n hx hb dX8_readsCommand_17 rfl (lv_at hl 0 rfl) ?_
    refine va_get (D := (dC, dI)) (ci := 7) (C := RX8) (T := TX8) (N := 12) hx hb hts iX8_readsCommand_X8 hown hK hP 0 rfl rfl 8 (by decide) (hts _ (List.mem_of_getElem? (i := 1) rfl)) (fun _ h9 => h9) rfl dX8_readsCommand_18 ?_
    refine lv_bipush (v := 45) hx hb dX8_readsCommand_21 (by decide) ?_
    refine lv_icmp_eq (tgt := 64) hx hb dX8_readsCommand_23 (by decide) (fun c23 => ?_) (fun c23 => ?_)
    · rw [if_pos c23] at hm
      exact jX8_readsCommand_J64 dC dI cA a_t a_t_state a_t_kept a_t_stack a_t_text v_t_thrown v_t_saved v_t_textLength f_t_text v_t_place r2 v_t_readLetters v_t_readLength v_t_readNumber _ _ _ _ _ _ hx hb hr hml hown hts hlocks hA hK hm _ _ (hP.sub [0, 1] rfl) (hD.sub [0, 1] (by decide) rfl) hS _ (lv_sub hl [0] rfl)
    · rw [if_neg c23] at hm
      refine lv_aload_n hx hb dX8_readsCommand_26 rfl (lv_at hl 0 rfl) ?_
      refine va_get (D := (dC, dI)) (ci := 7) (C := RX8) (T := TX8) (N := 12) hx hb hts iX8_readsCommand_X8 hown hK hP 0 rfl rfl 8 (by decide) (hts _ (List.mem_of_getElem? (i := 1) rfl)) (fun _ h9 => h9) rfl dX8_readsCommand_27 ?_
      refine lv_bipush (v := 60) hx hb dX8_readsCommand_30 (by decide) ?_
      refine lv_icmp_eq (tgt := 64) hx hb dX8_readsCommand_32 (by decide) (fun c32 => ?_) (fun c32 => ?_)
      · rw [if_pos c32] at hm
        exact jX8_readsCommand_J64 dC dI cA a_t a_t_state a_t_kept a_t_stack a_t_text v_t_thrown v_t_saved v_t_textLength f_t_text v_t_place r2 v_t_readLetters v_t_readLength v_t_readNumber _ _ _ _ _ _ hx hb hr hml hown hts hlocks hA hK hm _ _ (hP.sub [0, 1] rfl) (hD.sub [0, 1] (by decide) rfl) hS _ (lv_sub hl [0] rfl)
      · rw [if_neg c32] at hm
        refine lv_aload_n hx hb dX8_readsCommand_35 rfl (lv_at hl 0 rfl) ?_
        refine va_get (D := (dC, dI)) (ci := 7) (C := RX8) (T := TX8) (N := 12) hx hb hts iX8_readsCommand_X8 hown hK hP 0 rfl rfl 8 (by decide) (hts _ (List.mem_of_getElem? (i := 1) rfl)) (fun _ h9 => h9) rfl dX8_readsCommand_36 ?_
        refine lv_bipush (v := 62) hx hb dX8_readsCommand_39 (by decide) ?_
        refine lv_icmp_eq (tgt := 64) hx hb dX8_readsCommand_41 (by decide) (fun c41 => ?_) (fun c41 => ?_)
        · rw [if_pos c41] at hm
          exact jX8_readsCommand_J64 dC dI cA a_t a_t_state a_t_kept a_t_stack a_t_text v_t_thrown v_t_saved v_t_textLength f_t_text v_t_place r2 v_t_readLetters v_t_readLength v_t_readNumber _ _ _ _ _ _ hx hb hr hml hown hts hlocks hA hK hm _ _ (hP.sub [0, 1] rfl) (hD.sub [0, 1] (by decide) rfl) hS _ (lv_sub hl [0] rfl)
        · rw [if_neg c41] at hm
          refine lv_aload_n hx hb dX8_readsCommand_44 rfl (lv_at hl 0 rfl) ?_
          refine va_get (D := (dC, dI)) (ci := 7) (C := RX8) (T := TX8) (N := 12) hx hb hts iX8_readsCommand_X8 hown hK hP 0 rfl rfl 8 (by decide) (hts _ (List.mem_of_getElem? (i := 1) rfl)) (fun _ h9 => h9) rfl dX8_readsCommand_45 ?_
          refine lv_bipush (v := 61) hx hb dX8_readsCommand_48 (by decide) ?_
          refine lv_icmp_eq (tgt := 64) hx hb dX8_readsCommand_50 (by decide) (fun c50 => ?_) (fun c50 => ?_)
          · rw [if_pos c50] at hm
            exact jX8_readsCommand_J64 dC dI cA a_t a_t_state a_t_kept a_t_stack a_t_text v_t_thrown v_t_saved v_t_textLength f_t_text v_t_place r2 v_t_readLetters v_t_readLength v_t_readNumber _ _ _ _ _ _ hx hb hr hml hown hts hlocks hA hK hm _ _ (hP.sub [0, 1] rfl) (hD.sub [0, 1] (by decide) rfl) hS _ (lv_sub hl [0] rfl)
          · rw [if_neg c50] at hm
            refine lv_aload_n hx hb dX8_readsCommand_53 rfl (lv_at hl 0 rfl) ?_
            refine va_get (D := (dC, dI)) (ci := 7) (C := RX8) (T := TX8) (N := 12) hx hb hts iX8_readsCommand_X8 hown hK hP 0 rfl rfl 8 (by decide) (hts _ (List.mem_of_getElem? (i := 1) rfl)) (fun _ h9 => h9) rfl dX8_readsCommand_54 ?_
            refine lv_bipush (v := 42) hx hb dX8_readsCommand_57 (by decide) ?_
            refine lv_icmp_eq (tgt := 64) hx hb dX8_readsCommand_59 (by decide) (fun c59 => ?_) (fun c59 => ?_)
            · rw [if_pos c59] at hm
              exact jX8_readsCommand_J64 dC dI cA a_t a_t_state a_t_kept a_t_stack a_t_text v_t_thrown v_t_saved v_t_textLength f_t_text v_t_place r2 v_t_readLetters v_t_readLength v_t_readNumber _ _ _ _ _ _ hx hb hr hml hown hts hlocks hA hK hm _ _ (hP.sub [0, 1] rfl) (hD.sub [0, 1] (by decide) rfl) hS _ (lv_sub hl [0] rfl)
            · rw [if_neg c59] at hm
              refine lv_iconst (v := 0) hx hb dX8_readsCommand_62 (by decide) ?_
              cases hm
              exact mu_iret hx hb hr rfl ⟨rfl, rfl⟩ hP hD hS hK [0, 1] rfl (by decide) dX8_readsCommand_63 hlocks
def mX8_carriesOut (v_t_sign : Int32) (v_t_readLetters : Int32) (v_t_readLength : Int32) (v_t_readNumber : Int32) (f_t_state : Nat → Int32) : Option (Int32 × (Nat → Int32)) :=
  (if v_t_sign = 43 then
    ((mX8_whyNotAdded f_t_state v_t_readLetters v_t_readLength v_t_readNumber).bind fun r81 =>
    (if r81 = 0 then
      ((mX8_addName f_t_state (mX8_code v_t_readLetters v_t_readLength) v_t_readNumber).bind fun (r95, f_t_state_95) =>
      some ((if r81 = 0 then (1 : Int32) else 0), f_t_state_95))
    else
      some ((if r81 = 0 then (1 : Int32) else 0), f_t_state)))
  else
    (if v_t_sign = 45 then
      ((mX8_whyNotThere f_t_state v_t_readLetters v_t_readLength).bind fun r111 =>
      (if r111 = 0 then
        ((mX8_removeName f_t_state (mX8_code v_t_readLetters v_t_readLength)).bind fun (r121, f_t_state_121) =>
        some ((if r111 = 0 then (1 : Int32) else 0), f_t_state_121))
      else
        some ((if r111 = 0 then (1 : Int32) else 0), f_t_state)))
    else
      (if v_t_sign = 60 then
        ((mX8_whyNotMoved f_t_state v_t_readLetters v_t_readLength).bind fun r137 =>
        (if r137 = 0 then
          ((mX8_findHouse f_t_state (mX8_code v_t_readLetters v_t_readLength)).bind fun r148 =>
          ((mX8_moves f_t_state r148).bind fun (r151, f_t_state_151) =>
          some ((if r137 = 0 then (1 : Int32) else 0), f_t_state_151)))
        else
          some ((if r137 = 0 then (1 : Int32) else 0), f_t_state)))
      else
        (if v_t_sign = 61 then
          some ((if (if (mX8_isLimit v_t_readNumber) = 0 then (1 : Int32) else 0) = 0 then (1 : Int32) else 0), (if (if (mX8_isLimit v_t_readNumber) = 0 then (1 : Int32) else 0) = 0 then (upd f_t_state 0 v_t_readNumber) else f_t_state))
        else
          (if v_t_sign = 62 then
            ((mX8_whyNotEvicted f_t_state v_t_readLetters v_t_readLength).bind fun r167 =>
            (if r167 = 0 then
              ((mX8_evicts f_t_state (mX8_code v_t_readLetters v_t_readLength)).bind fun (r177, f_t_state_177) =>
              some ((if r167 = 0 then (1 : Int32) else 0), f_t_state_177))
            else
              some ((if r167 = 0 then (1 : Int32) else 0), f_t_state)))
          else
            ((mX8_compressed f_t_state).bind fun (r218, f_t_state_218) =>
            some (1, f_t_state_218)))))))
abbrev rmX8_carriesOut : Room := { frames := 8, cells := 0, slots := 0, locals := 173 }
abbrev wX8_carriesOut (cA : ClassId) (a_t a_t_state a_t_kept a_t_stack a_t_text : Nat) (v_t_thrown v_t_saved v_t_textLength v_t_place v_t_sign v_t_readLetters v_t_readLength v_t_readNumber : Int32) (f_t_state : Nat → Int32) : va_W := [(a_t, .inr (7, [.int v_t_thrown, .ref a_t_state, .ref a_t_kept, .ref a_t_stack, .int v_t_saved, .ref a_t_text, .int v_t_textLength, .int v_t_place, .int v_t_sign, .int v_t_readLetters, .int v_t_readLength, .int v_t_readNumber])), (a_t_state, .inl (cA, 255, .inl f_t_state))]
theorem iX8_carriesOut_X8 : ∀ w ∈ wsX80, w ∈ wsX8_carriesOut := (fun _ h => List.mem_cons_of_mem _ (List.mem_append_right _ h))
theorem hdX8_carriesOut : yX8_carriesOut.cls = RX8 ∧ yX8_carriesOut.cls ≠ "java/lang/invoke/MethodHandle" ∧ yX8_carriesOut.cls ≠ "java/lang/invoke/VarHandle" ∧ (parseMethodDescriptor yX8_carriesOut.desc).map (fun d => d.parameters.length) = some 0 := by decide +kernel
set_option maxHeartbeats 4000000 in
set_option maxRecDepth 100000 in
theorem kX8_carriesOut (l : Launch) (dC : Nat → ClassId) (dI : Nat → Nat → Nat) (cA : ClassId) (a_t a_t_state a_t_kept a_t_stack a_t_text : Nat) (v_t_thrown v_t_saved v_t_textLength v_t_place v_t_sign v_t_readLetters v_t_readLength v_t_readNumber : Int32) (f_t_state : Nat → Int32) (sz : Nat) (r : Int32) (o_f_t_state : Nat → Int32) (hm : (mX8_carriesOut v_t_sign v_t_readLetters v_t_readLength v_t_readNumber f_t_state) = some (r, o_f_t_state)) : Met l yX8_carriesOut wsX8_carriesOut rmX8_carriesOut (mpc (dC, dI) [(cA, .int)] (wX8_carriesOut cA a_t a_t_state a_t_kept a_t_stack a_t_text v_t_thrown v_t_saved v_t_textLength v_t_place v_t_sign v_t_readLetters v_t_readLength v_t_readNumber f_t_state) [.ref a_t] sz) (mqi (dC, dI) [(cA, .int)] (va_A (wX8_carriesOut cA a_t a_t_state a_t_kept a_t_stack a_t_text v_t_thrown v_t_saved v_t_textLength v_t_place v_t_sign v_t_readLetters v_t_readLength v_t_readNumber f_t_state) sz) (wX8_carriesOut cA a_t a_t_state a_t_kept a_t_stack a_t_text v_t_thrown v_t_saved v_t_textLength v_t_place v_t_sign v_t_readLetters v_t_readLength v_t_readNumber o_f_t_state) (fun x => x = r ∧ nbr r)) 0 0 (va_A (wX8_carriesOut cA a_t a_t_state a_t_kept a_t_stack a_t_text v_t_thrown v_t_saved v_t_textLength v_t_place v_t_sign v_t_readLetters v_t_readLength v_t_readNumber f_t_state) sz) := by
  unfold mX8_carriesOut at hm
  refine mu_ofW (Qc := fun A => mqi (dC, dI) [(cA, .int)] A (wX8_carriesOut cA a_t a_t_state a_t_kept a_t_stack a_t_text v_t_thrown v_t_saved v_t_textLength v_t_place v_t_sign v_t_readLetters v_t_readLength v_t_readNumber o_f_t_state) (fun x => x = r ∧ nbr r)) (cc := cX8_carriesOut) (maxL := 3) (ret := (some .boolean)) (own := RX8) (by decide) rfl rfl (Nat.le_of_ble_eq_true rfl) ?_
  intro p e s m args below meth c hx hb hr hts hown hlocks hml hin A hA hP hD hS hK ls hl
  have hl : lv_has ls 3 [(0, .ref a_t)] := hl
  have hP : va_P (dC, dI) vwCl [(a_t, .inr (7, [.int v_t_thrown, .ref a_t_state, .ref a_t_kept, .ref a_t_stack, .int v_t_saved, .ref a_t_text, .int v_t_textLength, .int v_t_place, .int v_t_sign, .int v_t_readLetters, .int v_t_readLength, .int v_t_readNumber])), (a_t_state, .inl (cA, 255, .inl f_t_state))] s.heap := hP
  have hD : va_D A [(a_t, .inr (7, [.int v_t_thrown, .ref a_t_state, .ref a_t_kept, .ref a_t_stack, .int v_t_saved, .ref a_t_text, .int v_t_textLength, .int v_t_place, .int v_t_sign, .int v_t_readLetters, .int v_t_readLength, .int v_t_readNumber])), (a_t_state, .inl (cA, 255, .inl f_t_state))] := hD
  refine lv_aload_n hx hb dX8_carriesOut_0 rfl (lv_at hl 0 rfl) ?_
  refine va_get (D := (dC, dI)) (ci := 7) (C := RX8) (T := TX8) (N := 12) hx hb hts iX8_carriesOut_X8 hown hK hP 0 rfl rfl 9 (by decide) (hts _ (List.mem_of_getElem? (i := 1) rfl)) (fun _ h9 => h9) rfl dX8_carriesOut_1 ?_
  refine lv_aload_n hx hb dX8_carriesOut_4 rfl (lv_at hl 0 rfl) ?_
  refine va_get (D := (dC, dI)) (ci := 7) (C := RX8) (T := TX8) (N := 12) hx hb hts iX8_carriesOut_X8 hown hK hP 0 rfl rfl 10 (by decide) (hts _ (List.mem_of_getElem? (i := 2) rfl)) (fun _ h9 => h9) rfl dX8_carriesOut_5 ?_
  refine sp_callSe ⟨hx, hb, hml, hown, hts⟩ (kX8_code l v_t_readLetters v_t_readLength) (va_cwS 2 hts gX8_carriesOut_X8_code rfl rfl rfl hdX8_code.2 ⟨Nat.le_of_ble_eq_true rfl, Nat.le_of_ble_eq_true rfl⟩) rfl hl.1 rfl (Nat.le_of_ble_eq_true rfl) dX8_carriesOut_8 ⟨Nat.zero_le _, Nat.zero_le _⟩ ?_
  refine lv_istore_n (lv' := [(1, .int (mX8_code v_t_readLetters v_t_readLength)), (0, .ref a_t)]) hx hb dX8_carriesOut_11 rfl hl (by decide) rfl (fun ls hl => ?_)
  refine lv_iconst (v := 0) hx hb dX8_carriesOut_12 (by decide) ?_
  refine lv_istore_n (lv' := [(2, .int 0), (1, .int (mX8_code v_t_readLetters v_t_readLength)), (0, .ref a_t)]) hx hb dX8_carriesOut_13 rfl hl (by decide) rfl (fun ls hl => ?_)
  refine lv_aload_n hx hb dX8_carriesOut_14 rfl (lv_at hl 2 rfl) ?_
  refine va_get (D := (dC, dI)) (ci := 7) (C := RX8) (T := TX8) (N := 12) hx hb hts iX8_carriesOut_X8 hown hK hP 0 rfl rfl 8 (by decide) (hts _ (List.mem_of_getElem? (i := 3) rfl)) (fun _ h9 => h9) rfl dX8_carriesOut_15 ?_
  by_cases c18_43 : v_t_sign = 43
  · rw [if_pos c18_43] at hm
    refine lv_lookup (off := 50) (tgt := 68) hx hb dX8_carriesOut_18 (by decide) (by rw [c18_43]; decide) (by decide) ?_
    refine lv_aload_n hx hb dX8_carriesOut_68 rfl (lv_at hl 2 rfl) ?_
    refine lv_aload_n hx hb dX8_carriesOut_69 rfl (lv_at hl 2 rfl) ?_
    refine va_get (D := (dC, dI)) (ci := 7) (C := RX8) (T := TX8) (N := 12) hx hb hts iX8_carriesOut_X8 hown hK hP 0 rfl rfl 9 (by decide) (hts _ (List.mem_of_getElem? (i := 1) rfl)) (fun _ h9 => h9) rfl dX8_carriesOut_70 ?_
    refine lv_aload_n hx hb dX8_carriesOut_73 rfl (lv_at hl 2 rfl) ?_
    refine va_get (D := (dC, dI)) (ci := 7) (C := RX8) (T := TX8) (N := 12) hx hb hts iX8_carriesOut_X8 hown hK hP 0 rfl rfl 10 (by decide) (hts _ (List.mem_of_getElem? (i := 2) rfl)) (fun _ h9 => h9) rfl dX8_carriesOut_74 ?_
    refine lv_aload_n hx hb dX8_carriesOut_77 rfl (lv_at hl 2 rfl) ?_
    refine va_get (D := (dC, dI)) (ci := 7) (C := RX8) (T := TX8) (N := 12) hx hb hts iX8_carriesOut_X8 hown hK hP 0 rfl rfl 11 (by decide) (hts _ (List.mem_of_getElem? (i := 4) rfl)) (fun _ h9 => h9) rfl dX8_carriesOut_78 ?_
    obtain ⟨r81, e81, hm⟩ := bs hm
    try dsimp only at hm
    refine ro_callVe ⟨hx, hb, hml, hown, hts⟩ (kX8_whyNotAdded l dC dI cA a_t a_t_state a_t_kept a_t_stack a_t_text v_t_thrown v_t_saved v_t_textLength v_t_place v_t_sign v_t_readLetters v_t_readLength v_t_readNumber f_t_state v_t_readLetters v_t_readLength v_t_readNumber r81 e81) (cwV 3 hts gX8_carriesOut_X8_whyNotAdded rfl rfl rfl hdX8_whyNotAdded ⟨Nat.le_of_ble_eq_true rfl, Nat.le_of_ble_eq_true rfl⟩) (hP.sub [0, 1] rfl) hK rfl rfl rfl hl.1 rfl (Nat.le_of_ble_eq_true rfl) dX8_carriesOut_81 ⟨Nat.zero_le _, Nat.zero_le _⟩ ?_
    refine lv_istore_n (lv' := [(2, .int r81), (1, .int (mX8_code v_t_readLetters v_t_readLength)), (0, .ref a_t)]) hx hb dX8_carriesOut_84 rfl hl (by decide) rfl (fun ls hl => ?_)
    refine lv_iload_n hx hb dX8_carriesOut_85 rfl (lv_at hl 0 rfl) ?_
    refine lv_if_ne (tgt := 222) hx hb dX8_carriesOut_86 (by decide) (fun c86 => ?_) (fun c86 => ?_)
    · rw [if_neg c86] at hm
      refine lv_iload_n hx hb dX8_carriesOut_222 rfl (lv_at hl 0 rfl) ?_
      refine lv_if_ne (tgt := 230) hx hb dX8_carriesOut_223 (by decide) (fun c223 => ?_) (fun c223 => absurd c223 c86)
      try rw [if_neg c86] at hm
      refine lv_iconst (v := 0) hx hb dX8_carriesOut_230 (by decide) ?_
      cases hm
      exact mu_iret hx hb hr rfl ⟨rfl, rfl⟩ hP hD hS hK [0, 1] rfl (by decide) dX8_carriesOut_231 hlocks
    · rw [if_pos c86] at hm
      refine lv_aload_n hx hb dX8_carriesOut_89 rfl (lv_at hl 2 rfl) ?_
      refine lv_iload_n hx hb dX8_carriesOut_90 rfl (lv_at hl 1 rfl) ?_
      refine lv_aload_n hx hb dX8_carriesOut_91 rfl (lv_at hl 2 rfl) ?_
      refine va_get (D := (dC, dI)) (ci := 7) (C := RX8) (T := TX8) (N := 12) hx hb hts iX8_carriesOut_X8 hown hK hP 0 rfl rfl 11 (by decide) (hts _ (List.mem_of_getElem? (i := 4) rfl)) (fun _ h9 => h9) rfl dX8_carriesOut_92 ?_
      obtain ⟨⟨r95, f_t_state_95⟩, e95, hm⟩ := bs hm
      try dsimp only at hm
      refine mu_callVe (wr := []) ⟨hx, hb, hml, hown, hts⟩ (kX8_addName l dC dI cA a_t a_t_state a_t_kept a_t_stack a_t_text v_t_thrown v_t_saved v_t_textLength v_t_place v_t_sign v_t_readLetters v_t_readLength v_t_readNumber f_t_state (mX8_code v_t_readLetters v_t_readLength) v_t_readNumber _ r95 f_t_state_95 e95) (cwV 2 hts gX8_carriesOut_X8_addName rfl rfl rfl hdX8_addName ⟨Nat.le_of_ble_eq_true rfl, Nat.le_of_ble_eq_true rfl⟩) hP hD hS hA hK [0, 1] [] rfl rfl rfl rfl (by decide) rfl rfl rfl hl.1 rfl (Nat.le_of_ble_eq_true rfl) dX8_carriesOut_95 ⟨Nat.zero_le _, Nat.zero_le _⟩ (fun H locs hP hD hS => ?_)
      have hP : va_P (dC, dI) vwCl [(a_t, .inr (7, [.int v_t_thrown, .ref a_t_state, .ref a_t_kept, .ref a_t_stack, .int v_t_saved, .ref a_t_text, .int v_t_textLength, .int v_t_place, .int v_t_sign, .int v_t_readLetters, .int v_t_readLength, .int v_t_readNumber])), (a_t_state, .inl (cA, 255, .inl f_t_state_95))] H := hP
      have hD : va_D A [(a_t, .inr (7, [.int v_t_thrown, .ref a_t_state, .ref a_t_kept, .ref a_t_stack, .int v_t_saved, .ref a_t_text, .int v_t_textLength, .int v_t_place, .int v_t_sign, .int v_t_readLetters, .int v_t_readLength, .int v_t_readNumber])), (a_t_state, .inl (cA, 255, .inl f_t_state_95))] := hD
      refine lv_pop hx hb dX8_carriesOut_98 rfl ?_
      refine lv_goto (tgt := 222) hx hb dX8_carriesOut_99 (by decide) ?_
      refine lv_iload_n hx hb dX8_carriesOut_222 rfl (lv_at hl 0 rfl) ?_
      refine lv_if_ne (tgt := 230) hx hb dX8_carriesOut_223 (by decide) (fun c223 => absurd c86 c223) (fun c223 => ?_)
      try rw [if_pos c86] at hm
      refine lv_iconst (v := 1) hx hb dX8_carriesOut_226 (by decide) ?_
      refine lv_goto (tgt := 231) hx hb dX8_carriesOut_227 (by decide) ?_
      cases hm
      exact mu_iret hx hb hr rfl ⟨rfl, rfl⟩ hP hD hS hK [0, 1] rfl (by decide) dX8_carriesOut_231 hlocks
  rw [if_neg c18_43] at hm
  by_cases c18_45 : v_t_sign = 45
  · rw [if_pos c18_45] at hm
    refine lv_lookup (off := 84) (tgt := 102) hx hb dX8_carriesOut_18 (by decide) (by rw [c18_45]; decide) (by decide) ?_
    refine lv_aload_n hx hb dX8_carriesOut_102 rfl (lv_at hl 2 rfl) ?_
    refine lv_aload_n hx hb dX8_carriesOut_103 rfl (lv_at hl 2 rfl) ?_
    refine va_get (D := (dC, dI)) (ci := 7) (C := RX8) (T := TX8) (N := 12) hx hb hts iX8_carriesOut_X8 hown hK hP 0 rfl rfl 9 (by decide) (hts _ (List.mem_of_getElem? (i := 1) rfl)) (fun _ h9 => h9) rfl dX8_carriesOut_104 ?_
    refine lv_aload_n hx hb dX8_carriesOut_107 rfl (lv_at hl 2 rfl) ?_
    refine va_get (D := (dC, dI)) (ci := 7) (C := RX8) (T := TX8) (N := 12) hx hb hts iX8_carriesOut_X8 hown hK hP 0 rfl rfl 10 (by decide) (hts _ (List.mem_of_getElem? (i := 2) rfl)) (fun _ h9 => h9) rfl dX8_carriesOut_108 ?_
    obtain ⟨r111, e111, hm⟩ := bs hm
    try dsimp only at hm
    refine ro_callVe ⟨hx, hb, hml, hown, hts⟩ (kX8_whyNotThere l dC dI cA a_t a_t_state a_t_kept a_t_stack a_t_text v_t_thrown v_t_saved v_t_textLength v_t_place v_t_sign v_t_readLetters v_t_readLength v_t_readNumber f_t_state v_t_readLetters v_t_readLength r111 e111) (cwV 2 hts gX8_carriesOut_X8_whyNotThere rfl rfl rfl hdX8_whyNotThere ⟨Nat.le_of_ble_eq_true rfl, Nat.le_of_ble_eq_true rfl⟩) (hP.sub [0, 1] rfl) hK rfl rfl rfl hl.1 rfl (Nat.le_of_ble_eq_true rfl) dX8_carriesOut_111 ⟨Nat.zero_le _, Nat.zero_le _⟩ ?_
    refine lv_istore_n (lv' := [(2, .int r111), (1, .int (mX8_code v_t_readLetters v_t_readLength)), (0, .ref a_t)]) hx hb dX8_carriesOut_114 rfl hl (by decide) rfl (fun ls hl => ?_)
    refine lv_iload_n hx hb dX8_carriesOut_115 rfl (lv_at hl 0 rfl) ?_
    refine lv_if_ne (tgt := 222) hx hb dX8_carriesOut_116 (by decide) (fun c116 => ?_) (fun c116 => ?_)
    · rw [if_neg c116] at hm
      refine lv_iload_n hx hb dX8_carriesOut_222 rfl (lv_at hl 0 rfl) ?_
      refine lv_if_ne (tgt := 230) hx hb dX8_carriesOut_223 (by decide) (fun c223 => ?_) (fun c223 => absurd c223 c116)
      try rw [if_neg c116] at hm
      refine lv_iconst (v := 0) hx hb dX8_carriesOut_230 (by decide) ?_
      cases hm
      exact mu_iret hx hb hr rfl ⟨rfl, rfl⟩ hP hD hS hK [0, 1] rfl (by decide) dX8_carriesOut_231 hlocks
    · rw [if_pos c116] at hm
      refine lv_aload_n hx hb dX8_carriesOut_119 rfl (lv_at hl 2 rfl) ?_
      refine lv_iload_n hx hb dX8_carriesOut_120 rfl (lv_at hl 1 rfl) ?_
      obtain ⟨⟨r121, f_t_state_121⟩, e121, hm⟩ := bs hm
      try dsimp only at hm
      refine mu_callVe (wr := []) ⟨hx, hb, hml, hown, hts⟩ (kX8_removeName l dC dI cA a_t a_t_state a_t_kept a_t_stack a_t_text v_t_thrown v_t_saved v_t_textLength v_t_place v_t_sign v_t_readLetters v_t_readLength v_t_readNumber f_t_state (mX8_code v_t_readLetters v_t_readLength) _ r121 f_t_state_121 e121) (cwV 1 hts gX8_carriesOut_X8_removeName rfl rfl rfl hdX8_removeName ⟨Nat.le_of_ble_eq_true rfl, Nat.le_of_ble_eq_true rfl⟩) hP hD hS hA hK [0, 1] [] rfl rfl rfl rfl (by decide) rfl rfl rfl hl.1 rfl (Nat.le_of_ble_eq_true rfl) dX8_carriesOut_121 ⟨Nat.zero_le _, Nat.zero_le _⟩ (fun H locs hP hD hS => ?_)
      have hP : va_P (dC, dI) vwCl [(a_t, .inr (7, [.int v_t_thrown, .ref a_t_state, .ref a_t_kept, .ref a_t_stack, .int v_t_saved, .ref a_t_text, .int v_t_textLength, .int v_t_place, .int v_t_sign, .int v_t_readLetters, .int v_t_readLength, .int v_t_readNumber])), (a_t_state, .inl (cA, 255, .inl f_t_state_121))] H := hP
      have hD : va_D A [(a_t, .inr (7, [.int v_t_thrown, .ref a_t_state, .ref a_t_kept, .ref a_t_stack, .int v_t_saved, .ref a_t_text, .int v_t_textLength, .int v_t_place, .int v_t_sign, .int v_t_readLetters, .int v_t_readLength, .int v_t_readNumber])), (a_t_state, .inl (cA, 255, .inl f_t_state_121))] := hD
      refine lv_pop hx hb dX8_carriesOut_124 rfl ?_
      refine lv_goto (tgt := 222) hx hb dX8_carriesOut_125 (by decide) ?_
      refine lv_iload_n hx hb dX8_carriesOut_222 rfl (lv_at hl 0 rfl) ?_
      refine lv_if_ne (tgt := 230) hx hb dX8_carriesOut_223 (by decide) (fun c223 => absurd c116 c223) (fun c223 => ?_)
      try rw [if_pos c116] at hm
      refine lv_iconst (v := 1) hx hb dX8_carriesOut_226 (by decide) ?_
      refine lv_goto (tgt := 231) hx hb dX8_carriesOut_227 (by decide) ?_
      cases hm
      exact mu_iret hx hb hr rfl ⟨rfl, rfl⟩ hP hD hS hK [0, 1] rfl (by decide) dX8_carriesOut_231 hlocks
  rw [if_neg c18_45] at hm
  by_cases c18_60 : v_t_sign = 60
  · rw [if_pos c18_60] at hm
    refine lv_lookup (off := 110) (tgt := 128) hx hb dX8_carriesOut_18 (by decide) (by rw [c18_60]; decide) (by decide) ?_
    refine lv_aload_n hx hb dX8_carriesOut_128 rfl (lv_at hl 2 rfl) ?_
    refine lv_aload_n hx hb dX8_carriesOut_129 rfl (lv_at hl 2 rfl) ?_
    refine va_get (D := (dC, dI)) (ci := 7) (C := RX8) (T := TX8) (N := 12) hx hb hts iX8_carriesOut_X8 hown hK hP 0 rfl rfl 9 (by decide) (hts _ (List.mem_of_getElem? (i := 1) rfl)) (fun _ h9 => h9) rfl dX8_carriesOut_130 ?_
    refine lv_aload_n hx hb dX8_carriesOut_133 rfl (lv_at hl 2 rfl) ?_
    refine va_get (D := (dC, dI)) (ci := 7) (C := RX8) (T := TX8) (N := 12) hx hb hts iX8_carriesOut_X8 hown hK hP 0 rfl rfl 10 (by decide) (hts _ (List.mem_of_getElem? (i := 2) rfl)) (fun _ h9 => h9) rfl dX8_carriesOut_134 ?_
    obtain ⟨r137, e137, hm⟩ := bs hm
    try dsimp only at hm
    refine ro_callVe ⟨hx, hb, hml, hown, hts⟩ (kX8_whyNotMoved l dC dI cA a_t a_t_state a_t_kept a_t_stack a_t_text v_t_thrown v_t_saved v_t_textLength v_t_place v_t_sign v_t_readLetters v_t_readLength v_t_readNumber f_t_state v_t_readLetters v_t_readLength r137 e137) (cwV 2 hts gX8_carriesOut_X8_whyNotMoved rfl rfl rfl hdX8_whyNotMoved ⟨Nat.le_of_ble_eq_true rfl, Nat.le_of_ble_eq_true rfl⟩) (hP.sub [0, 1] rfl) hK rfl rfl rfl hl.1 rfl (Nat.le_of_ble_eq_true rfl) dX8_carriesOut_137 ⟨Nat.zero_le _, Nat.zero_le _⟩ ?_
    refine lv_istore_n (lv' := [(2, .int r137), (1, .int (mX8_code v_t_readLetters v_t_readLength)), (0, .ref a_t)]) hx hb dX8_carriesOut_140 rfl hl (by decide) rfl (fun ls hl => ?_)
    refine lv_iload_n hx hb dX8_carriesOut_141 rfl (lv_at hl 0 rfl) ?_
    refine lv_if_ne (tgt := 222) hx hb dX8_carriesOut_142 (by decide) (fun c142 => ?_) (fun c142 => ?_)
    · rw [if_neg c142] at hm
      refine lv_iload_n hx hb dX8_carriesOut_222 rfl (lv_at hl 0 rfl) ?_
      refine lv_if_ne (tgt := 230) hx hb dX8_carriesOut_223 (by decide) (fun c223 => ?_) (fun c223 => absurd c223 c142)
      try rw [if_neg c142] at hm
      refine lv_iconst (v := 0) hx hb dX8_carriesOut_230 (by decide) ?_
      cases hm
      exact mu_iret hx hb hr rfl ⟨rfl, rfl⟩ hP hD hS hK [0, 1] rfl (by decide) dX8_carriesOut_231 hlocks
    · rw [if_pos c142] at hm
      refine lv_aload_n hx hb dX8_carriesOut_145 rfl (lv_at hl 2 rfl) ?_
      refine lv_aload_n hx hb dX8_carriesOut_146 rfl (lv_at hl 2 rfl) ?_
      refine lv_iload_n hx hb dX8_carriesOut_147 rfl (lv_at hl 1 rfl) ?_
      obtain ⟨r148, e148, hm⟩ := bs hm
      try dsimp only at hm
      refine ro_callVe ⟨hx, hb, hml, hown, hts⟩ (kX8_findHouse l dC dI cA a_t a_t_state a_t_kept a_t_stack a_t_text v_t_thrown v_t_saved v_t_textLength v_t_place v_t_sign v_t_readLetters v_t_readLength v_t_readNumber f_t_state (mX8_code v_t_readLetters v_t_readLength) r148 e148) (cwV 1 hts gX8_carriesOut_X8_findHouse rfl rfl rfl hdX8_findHouse ⟨Nat.le_of_ble_eq_true rfl, Nat.le_of_ble_eq_true rfl⟩) (hP.sub [0, 1] rfl) hK rfl rfl rfl hl.1 rfl (Nat.le_of_ble_eq_true rfl) dX8_carriesOut_148 ⟨Nat.zero_le _, Nat.zero_le _⟩ ?_
      obtain ⟨⟨r151, f_t_state_151⟩, e151, hm⟩ := bs hm
      try dsimp only at hm
      refine mu_callVe (wr := []) ⟨hx, hb, hml, hown, hts⟩ (kX8_moves l dC dI cA a_t a_t_state a_t_kept a_t_stack a_t_text v_t_thrown v_t_saved v_t_textLength v_t_place v_t_sign v_t_readLetters v_t_readLength v_t_readNumber f_t_state r148 _ r151 f_t_state_151 e151) (cwV 1 hts gX8_carriesOut_X8_moves rfl rfl rfl hdX8_moves ⟨Nat.le_of_ble_eq_true rfl, Nat.le_of_ble_eq_true rfl⟩) hP hD hS hA hK [0, 1] [] rfl rfl rfl rfl (by decide) rfl rfl rfl hl.1 rfl (Nat.le_of_ble_eq_true rfl) dX8_carriesOut_151 ⟨Nat.zero_le _, Nat.zero_le _⟩ (fun H locs hP hD hS => ?_)
      have hP : va_P (dC, dI) vwCl [(a_t, .inr (7, [.int v_t_thrown, .ref a_t_state, .ref a_t_kept, .ref a_t_stack, .int v_t_saved, .ref a_t_text, .int v_t_textLength, .int v_t_place, .int v_t_sign, .int v_t_readLetters, .int v_t_readLength, .int v_t_readNumber])), (a_t_state, .inl (cA, 255, .inl f_t_state_151))] H := hP
      have hD : va_D A [(a_t, .inr (7, [.int v_t_thrown, .ref a_t_state, .ref a_t_kept, .ref a_t_stack, .int v_t_saved, .ref a_t_text, .int v_t_textLength, .int v_t_place, .int v_t_sign, .int v_t_readLetters, .int v_t_readLength, .int v_t_readNumber])), (a_t_state, .inl (cA, 255, .inl f_t_state_151))] := hD
      refine lv_pop hx hb dX8_carriesOut_154 rfl ?_
      refine lv_goto (tgt := 222) hx hb dX8_carriesOut_155 (by decide) ?_
      refine lv_iload_n hx hb dX8_carriesOut_222 rfl (lv_at hl 0 rfl) ?_
      refine lv_if_ne (tgt := 230) hx hb dX8_carriesOut_223 (by decide) (fun c223 => absurd c142 c223) (fun c223 => ?_)
      try rw [if_pos c142] at hm
      refine lv_iconst (v := 1) hx hb dX8_carriesOut_226 (by decide) ?_
      refine lv_goto (tgt := 231) hx hb dX8_carriesOut_227 (by decide) ?_
      cases hm
      exact mu_iret hx hb hr rfl ⟨rfl, rfl⟩ hP hD hS hK [0, 1] rfl (by decide) dX8_carriesOut_231 hlocks
  rw [if_neg c18_60] at hm
  by_cases c18_61 : v_t_sign = 61
  · rw [if_pos c18_61] at hm
    refine lv_lookup (off := 166) (tgt := 184) hx hb dX8_carriesOut_18 (by decide) (by rw [c18_61]; decide) (by decide) ?_
    refine lv_aload_n hx hb dX8_carriesOut_184 rfl (lv_at hl 2 rfl) ?_
    refine va_get (D := (dC, dI)) (ci := 7) (C := RX8) (T := TX8) (N := 12) hx hb hts iX8_carriesOut_X8 hown hK hP 0 rfl rfl 11 (by decide) (hts _ (List.mem_of_getElem? (i := 4) rfl)) (fun _ h9 => h9) rfl dX8_carriesOut_185 ?_
    refine sp_callSz ⟨hx, hb, hml, hown, hts⟩ (kX8_isLimit l v_t_readNumber) (va_cwS 1 hts gX8_carriesOut_X8_isLimit rfl rfl rfl hdX8_isLimit.2 ⟨Nat.le_of_ble_eq_true rfl, Nat.le_of_ble_eq_true rfl⟩) rfl hl.1 rfl (Nat.le_of_ble_eq_true rfl) dX8_carriesOut_188 ⟨Nat.zero_le _, Nat.zero_le _⟩ (fun hb188 => ?_)
    refine lv_if_eq (tgt := 198) hx hb dX8_carriesOut_191 (by decide) (fun c191 => ?_) (fun c191 => ?_)
    · try simp only [if_pos c191] at hm
      refine lv_iconst (v := 1) hx hb dX8_carriesOut_198 (by decide) ?_
      refine lv_istore_n (lv' := [(2, .int 1), (1, .int (mX8_code v_t_readLetters v_t_readLength)), (0, .ref a_t)]) hx hb dX8_carriesOut_199 rfl hl (by decide) rfl (fun ls hl => ?_)
      refine lv_iload_n hx hb dX8_carriesOut_200 rfl (lv_at hl 0 rfl) ?_
      refine lv_if_ne (tgt := 222) hx hb dX8_carriesOut_201 (by decide) (fun c201 => ?_) (fun c201 => absurd c201 (by decide))
      try rw [if_neg (show ¬ ((1 : Int32) = 0) by decide)] at hm
      refine lv_iload_n hx hb dX8_carriesOut_222 rfl (lv_at hl 0 rfl) ?_
      refine lv_if_ne (tgt := 230) hx hb dX8_carriesOut_223 (by decide) (fun c223 => ?_) (fun c223 => absurd c223 (by decide))
      try rw [if_neg (show ¬ ((1 : Int32) = 0) by decide)] at hm
      refine lv_iconst (v := 0) hx hb dX8_carriesOut_230 (by decide) ?_
      cases hm
      exact mu_iret hx hb hr rfl ⟨rfl, rfl⟩ hP hD hS hK [0, 1] rfl (by decide) dX8_carriesOut_231 hlocks
    · try simp only [if_neg c191] at hm
      refine lv_iconst (v := 0) hx hb dX8_carriesOut_194 (by decide) ?_
      refine lv_goto (tgt := 199) hx hb dX8_carriesOut_195 (by decide) ?_
      refine lv_istore_n (lv' := [(2, .int 0), (1, .int (mX8_code v_t_readLetters v_t_readLength)), (0, .ref a_t)]) hx hb dX8_carriesOut_199 rfl hl (by decide) rfl (fun ls hl => ?_)
      refine lv_iload_n hx hb dX8_carriesOut_200 rfl (lv_at hl 0 rfl) ?_
      refine lv_if_ne (tgt := 222) hx hb dX8_carriesOut_201 (by decide) (fun c201 => absurd c201 (by decide)) (fun c201 => ?_)
      try rw [if_pos (show (0 : Int32) = 0 by decide)] at hm
      refine lv_aload_n hx hb dX8_carriesOut_204 rfl (lv_at hl 2 rfl) ?_
      refine va_get (D := (dC, dI)) (ci := 7) (C := RX8) (T := TX8) (N := 12) hx hb hts iX8_carriesOut_X8 hown hK hP 0 rfl rfl 1 (by decide) (hts _ (List.mem_of_getElem? (i := 5) rfl)) (fun _ h9 => h9) rfl dX8_carriesOut_205 ?_
      refine lv_iconst (v := 0) hx hb dX8_carriesOut_208 (by decide) ?_
      refine lv_aload_n hx hb dX8_carriesOut_209 rfl (lv_at hl 2 rfl) ?_
      refine va_get (D := (dC, dI)) (ci := 7) (C := RX8) (T := TX8) (N := 12) hx hb hts iX8_carriesOut_X8 hown hK hP 0 rfl rfl 11 (by decide) (hts _ (List.mem_of_getElem? (i := 4) rfl)) (fun _ h9 => h9) rfl dX8_carriesOut_210 ?_
      refine xa_stK hx hb hK hP hD hS 1 0 rfl rfl 0 rfl (by decide) (by decide) dX8_carriesOut_213 (fun H locs hP hD hS => ?_)
      have hP : va_P (dC, dI) vwCl [(a_t, .inr (7, [.int v_t_thrown, .ref a_t_state, .ref a_t_kept, .ref a_t_stack, .int v_t_saved, .ref a_t_text, .int v_t_textLength, .int v_t_place, .int v_t_sign, .int v_t_readLetters, .int v_t_readLength, .int v_t_readNumber])), (a_t_state, .inl (cA, 255, .inl (upd f_t_state 0 v_t_readNumber)))] H := hP
      have hD : va_D A [(a_t, .inr (7, [.int v_t_thrown, .ref a_t_state, .ref a_t_kept, .ref a_t_stack, .int v_t_saved, .ref a_t_text, .int v_t_textLength, .int v_t_place, .int v_t_sign, .int v_t_readLetters, .int v_t_readLength, .int v_t_readNumber])), (a_t_state, .inl (cA, 255, .inl (upd f_t_state 0 v_t_readNumber)))] := hD
      refine lv_goto (tgt := 222) hx hb dX8_carriesOut_214 (by decide) ?_
      refine lv_iload_n hx hb dX8_carriesOut_222 rfl (lv_at hl 0 rfl) ?_
      refine lv_if_ne (tgt := 230) hx hb dX8_carriesOut_223 (by decide) (fun c223 => absurd c223 (by decide)) (fun c223 => ?_)
      try rw [if_pos (show (0 : Int32) = 0 by decide)] at hm
      refine lv_iconst (v := 1) hx hb dX8_carriesOut_226 (by decide) ?_
      refine lv_goto (tgt := 231) hx hb dX8_carriesOut_227 (by decide) ?_
      cases hm
      exact mu_iret hx hb hr rfl ⟨rfl, rfl⟩ hP hD hS hK [0, 1] rfl (by decide) dX8_carriesOut_231 hlocks
  rw [if_neg c18_61] at hm
  by_cases c18_62 : v_t_sign = 62
  · rw [if_pos c18_62] at hm
    refine lv_lookup (off := 140) (tgt := 158) hx hb dX8_carriesOut_18 (by decide) (by rw [c18_62]; decide) (by decide) ?_
    refine lv_aload_n hx hb dX8_carriesOut_158 rfl (lv_at hl 2 rfl) ?_
    refine lv_aload_n hx hb dX8_carriesOut_159 rfl (lv_at hl 2 rfl) ?_
    refine va_get (D := (dC, dI)) (ci := 7) (C := RX8) (T := TX8) (N := 12) hx hb hts iX8_carriesOut_X8 hown hK hP 0 rfl rfl 9 (by decide) (hts _ (List.mem_of_getElem? (i := 1) rfl)) (fun _ h9 => h9) rfl dX8_carriesOut_160 ?_
    refine lv_aload_n hx hb dX8_carriesOut_163 rfl (lv_at hl 2 rfl) ?_
    refine va_get (D := (dC, dI)) (ci := 7) (C := RX8) (T := TX8) (N := 12) hx hb hts iX8_carriesOut_X8 hown hK hP 0 rfl rfl 10 (by decide) (hts _ (List.mem_of_getElem? (i := 2) rfl)) (fun _ h9 => h9) rfl dX8_carriesOut_164 ?_
    obtain ⟨r167, e167, hm⟩ := bs hm
    try dsimp only at hm
    refine ro_callVe ⟨hx, hb, hml, hown, hts⟩ (kX8_whyNotEvicted l dC dI cA a_t a_t_state a_t_kept a_t_stack a_t_text v_t_thrown v_t_saved v_t_textLength v_t_place v_t_sign v_t_readLetters v_t_readLength v_t_readNumber f_t_state v_t_readLetters v_t_readLength r167 e167) (cwV 2 hts gX8_carriesOut_X8_whyNotEvicted rfl rfl rfl hdX8_whyNotEvicted ⟨Nat.le_of_ble_eq_true rfl, Nat.le_of_ble_eq_true rfl⟩) (hP.sub [0, 1] rfl) hK rfl rfl rfl hl.1 rfl (Nat.le_of_ble_eq_true rfl) dX8_carriesOut_167 ⟨Nat.zero_le _, Nat.zero_le _⟩ ?_
    refine lv_istore_n (lv' := [(2, .int r167), (1, .int (mX8_code v_t_readLetters v_t_readLength)), (0, .ref a_t)]) hx hb dX8_carriesOut_170 rfl hl (by decide) rfl (fun ls hl => ?_)
    refine lv_iload_n hx hb dX8_carriesOut_171 rfl (lv_at hl 0 rfl) ?_
    refine lv_if_ne (tgt := 222) hx hb dX8_carriesOut_172 (by decide) (fun c172 => ?_) (fun c172 => ?_)
    · rw [if_neg c172] at hm
      refine lv_iload_n hx hb dX8_carriesOut_222 rfl (lv_at hl 0 rfl) ?_
      refine lv_if_ne (tgt := 230) hx hb dX8_carriesOut_223 (by decide) (fun c223 => ?_) (fun c223 => absurd c223 c172)
      try rw [if_neg c172] at hm
      refine lv_iconst (v := 0) hx hb dX8_carriesOut_230 (by decide) ?_
      cases hm
      exact mu_iret hx hb hr rfl ⟨rfl, rfl⟩ hP hD hS hK [0, 1] rfl (by decide) dX8_carriesOut_231 hlocks
    · rw [if_pos c172] at hm
      refine lv_aload_n hx hb dX8_carriesOut_175 rfl (lv_at hl 2 rfl) ?_
      refine lv_iload_n hx hb dX8_carriesOut_176 rfl (lv_at hl 1 rfl) ?_
      obtain ⟨⟨r177, f_t_state_177⟩, e177, hm⟩ := bs hm
      try dsimp only at hm
      refine mu_callVe (wr := []) ⟨hx, hb, hml, hown, hts⟩ (kX8_evicts l dC dI cA a_t a_t_state a_t_kept a_t_stack a_t_text v_t_thrown v_t_saved v_t_textLength v_t_place v_t_sign v_t_readLetters v_t_readLength v_t_readNumber f_t_state (mX8_code v_t_readLetters v_t_readLength) _ r177 f_t_state_177 e177) (cwV 1 hts gX8_carriesOut_X8_evicts rfl rfl rfl hdX8_evicts ⟨Nat.le_of_ble_eq_true rfl, Nat.le_of_ble_eq_true rfl⟩) hP hD hS hA hK [0, 1] [] rfl rfl rfl rfl (by decide) rfl rfl rfl hl.1 rfl (Nat.le_of_ble_eq_true rfl) dX8_carriesOut_177 ⟨Nat.zero_le _, Nat.zero_le _⟩ (fun H locs hP hD hS => ?_)
      have hP : va_P (dC, dI) vwCl [(a_t, .inr (7, [.int v_t_thrown, .ref a_t_state, .ref a_t_kept, .ref a_t_stack, .int v_t_saved, .ref a_t_text, .int v_t_textLength, .int v_t_place, .int v_t_sign, .int v_t_readLetters, .int v_t_readLength, .int v_t_readNumber])), (a_t_state, .inl (cA, 255, .inl f_t_state_177))] H := hP
      have hD : va_D A [(a_t, .inr (7, [.int v_t_thrown, .ref a_t_state, .ref a_t_kept, .ref a_t_stack, .int v_t_saved, .ref a_t_text, .int v_t_textLength, .int v_t_place, .int v_t_sign, .int v_t_readLetters, .int v_t_readLength, .int v_t_readNumber])), (a_t_state, .inl (cA, 255, .inl f_t_state_177))] := hD
      refine lv_pop hx hb dX8_carriesOut_180 rfl ?_
      refine lv_goto (tgt := 222) hx hb dX8_carriesOut_181 (by decide) ?_
      refine lv_iload_n hx hb dX8_carriesOut_222 rfl (lv_at hl 0 rfl) ?_
      refine lv_if_ne (tgt := 230) hx hb dX8_carriesOut_223 (by decide) (fun c223 => absurd c172 c223) (fun c223 => ?_)
      try rw [if_pos c172] at hm
      refine lv_iconst (v := 1) hx hb dX8_carriesOut_226 (by decide) ?_
      refine lv_goto (tgt := 231) hx hb dX8_carriesOut_227 (by decide) ?_
      cases hm
      exact mu_iret hx hb hr rfl ⟨rfl, rfl⟩ hP hD hS hK [0, 1] rfl (by decide) dX8_carriesOut_231 hlocks
  rw [if_neg c18_62] at hm
  refine lv_lookup (off := 199) (tgt := 217) hx hb dX8_carriesOut_18 (by decide) ((lv_osw c18_43 (by decide)).trans ((lv_osw c18_45 (by decide)).trans ((lv_osw c18_60 (by decide)).trans ((lv_osw c18_61 (by decide)).trans ((lv_osw c18_62 (by decide)).trans rfl))))) (by decide) ?_
  refine lv_aload_n hx hb dX8_carriesOut_217 rfl (lv_at hl 2 rfl) ?_
  obtain ⟨⟨r218, f_t_state_218⟩, e218, hm⟩ := bs hm
  try dsimp only at hm
  refine mu_callVe (wr := []) ⟨hx, hb, hml, hown, hts⟩ (kX8_compressed l dC dI cA a_t a_t_state a_t_kept a_t_stack a_t_text v_t_thrown v_t_saved v_t_textLength v_t_place v_t_sign v_t_readLetters v_t_readLength v_t_readNumber f_t_state _ r218 f_t_state_218 e218) (cwV 0 hts gX8_carriesOut_X8_compressed rfl rfl rfl hdX8_compressed ⟨Nat.le_of_ble_eq_true rfl, Nat.le_of_ble_eq_true rfl⟩) hP hD hS hA hK [0, 1] [] rfl rfl rfl rfl (by decide) rfl rfl rfl hl.1 rfl (Nat.le_of_ble_eq_true rfl) dX8_carriesOut_218 ⟨Nat.zero_le _, Nat.zero_le _⟩ (fun H locs hP hD hS => ?_)
  have hP : va_P (dC, dI) vwCl [(a_t, .inr (7, [.int v_t_thrown, .ref a_t_state, .ref a_t_kept, .ref a_t_stack, .int v_t_saved, .ref a_t_text, .int v_t_textLength, .int v_t_place, .int v_t_sign, .int v_t_readLetters, .int v_t_readLength, .int v_t_readNumber])), (a_t_state, .inl (cA, 255, .inl f_t_state_218))] H := hP
  have hD : va_D A [(a_t, .inr (7, [.int v_t_thrown, .ref a_t_state, .ref a_t_kept, .ref a_t_stack, .int v_t_saved, .ref a_t_text, .int v_t_textLength, .int v_t_place, .int v_t_sign, .int v_t_readLetters, .int v_t_readLength, .int v_t_readNumber])), (a_t_state, .inl (cA, 255, .inl f_t_state_218))] := hD
  refine lv_pop hx hb dX8_carriesOut_221 rfl ?_
  refine lv_iload_n hx hb dX8_carriesOut_222 rfl (lv_at hl 0 rfl) ?_
  refine lv_if_ne (tgt := 230) hx hb dX8_carriesOut_223 (by decide) (fun c223 => absurd c223 (by decide)) (fun c223 => ?_)
  try rw [if_pos (show (0 : Int32) = 0 by decide)] at hm
  refine lv_iconst (v := 1) hx hb dX8_carriesOut_226 (by decide) ?_
  refine lv_goto (tgt := 231) hx hb dX8_carriesOut_227 (by decide) ?_
  cases hm
  exact mu_iret hx hb hr rfl ⟨rfl, rfl⟩ hP hD hS hK [0, 1] rfl (by decide) dX8_carriesOut_231 hlocks
def mX8_runCommands_L12 (v_t_textLength : Int32) (f_t_text : Nat → Int32) : Nat → (Int32) → (Int32) → (Int32) → (Int32) → (Int32) → (Int32) → Option (Int32 × Int32 × Int32 × Int32 × Int32 × Int32)
  | 0, _, _, _, _, _, _ => none
  | n + 1, x1_12, v_t_place_L12, v_t_sign_L12, v_t_readLetters_L12, v_t_readLength_L12, v_t_readNumber_L12 =>
    (if x1_12 = 0 then
      some (x1_12, v_t_place_L12, v_t_sign_L12, v_t_readLetters_L12, v_t_readLength_L12, v_t_readNumber_L12)
    else
      (if v_t_textLength ≤ v_t_place_L12 then
        some (x1_12, v_t_place_L12, v_t_sign_L12, v_t_readLetters_L12, v_t_readLength_L12, v_t_readNumber_L12)
      else
        ((mX8_readsCommand v_t_textLength v_t_place_L12 v_t_readLetters_L12 v_t_readLength_L12 v_t_readNumber_L12 f_t_text).bind fun (r28, v_t_place_28, v_t_sign_28, v_t_readLetters_28, v_t_readLength_28, v_t_readNumber_28) =>
        mX8_runCommands_L12 v_t_textLength f_t_text n r28 v_t_place_28 v_t_sign_28 v_t_readLetters_28 v_t_readLength_28 v_t_readNumber_28)))
def mX8_runCommands_L60 (v_t_textLength : Int32) (f_t_text : Nat → Int32) : Nat → (Int32) → (Int32) → (Int32) → (Int32) → (Int32) → (Int32) → (Int32) → (Nat → Int32) → Option (Int32 × Int32 × Int32 × Int32 × Int32 × Int32 × Int32 × (Nat → Int32))
  | 0, _, _, _, _, _, _, _, _ => none
  | n + 1, x2_60, x3_60, v_t_place_L60, v_t_sign_L60, v_t_readLetters_L60, v_t_readLength_L60, v_t_readNumber_L60, f_t_state_L60 =>
    (if x3_60 = 0 then
      some (x2_60, x3_60, v_t_place_L60, v_t_sign_L60, v_t_readLetters_L60, v_t_readLength_L60, v_t_readNumber_L60, f_t_state_L60)
    else
      (if v_t_textLength ≤ v_t_place_L60 then
        some (x2_60, x3_60, v_t_place_L60, v_t_sign_L60, v_t_readLetters_L60, v_t_readLength_L60, v_t_readNumber_L60, f_t_state_L60)
      else
        ((mX8_readsCommand v_t_textLength v_t_place_L60 v_t_readLetters_L60 v_t_readLength_L60 v_t_readNumber_L60 f_t_text).bind fun (r76, v_t_place_76, v_t_sign_76, v_t_readLetters_76, v_t_readLength_76, v_t_readNumber_76) =>
        ((mX8_carriesOut v_t_sign_76 v_t_readLetters_76 v_t_readLength_76 v_t_readNumber_76 f_t_state_L60).bind fun (r81, f_t_state_81) =>
        mX8_runCommands_L60 v_t_textLength f_t_text n (x2_60 + (if r81 = 0 then (0 : Int32) else 1)) r81 v_t_place_76 v_t_sign_76 v_t_readLetters_76 v_t_readLength_76 v_t_readNumber_76 f_t_state_81))))
def mX8_runCommands (v_t_saved : Int32) (v_t_textLength : Int32) (v_t_sign : Int32) (v_t_readLetters : Int32) (v_t_readLength : Int32) (v_t_readNumber : Int32) (f_t_state : Nat → Int32) (f_t_stack : Nat → Int32) (f_t_text : Nat → Int32) : Option (Int32 × Int32 × Int32 × Int32 × Int32 × Int32 × Int32 × Int32 × (Nat → Int32) × (Nat → Int32)) :=
  ((mX8_runCommands_L12 v_t_textLength f_t_text FU 1 0 v_t_sign v_t_readLetters v_t_readLength v_t_readNumber).bind fun (y1_12, v_t_place_E12, v_t_sign_E12, v_t_readLetters_E12, v_t_readLength_E12, v_t_readNumber_E12) =>
  (if y1_12 = 0 then
    some (((-10) - v_t_place_E12), 0, v_t_saved, v_t_place_E12, v_t_sign_E12, v_t_readLetters_E12, v_t_readLength_E12, v_t_readNumber_E12, f_t_state, f_t_stack)
  else
    ((mX8_save v_t_saved f_t_state f_t_stack).bind fun (v_t_saved_48, f_t_stack_48) =>
    ((mX8_runCommands_L60 v_t_textLength f_t_text FU 0 1 0 v_t_sign_E12 v_t_readLetters_E12 v_t_readLength_E12 v_t_readNumber_E12 f_t_state).bind fun (y2_60, y3_60, v_t_place_E60, v_t_sign_E60, v_t_readLetters_E60, v_t_readLength_E60, v_t_readNumber_E60, f_t_state_E60) =>
    some (y2_60, 0, v_t_saved_48, v_t_place_E60, v_t_sign_E60, v_t_readLetters_E60, v_t_readLength_E60, v_t_readNumber_E60, f_t_state_E60, f_t_stack_48)))))
abbrev rmX8_runCommands : Room := { frames := 9, cells := 0, slots := 0, locals := 195 }
abbrev wX8_runCommands (cA : ClassId) (a_t a_t_state a_t_kept a_t_stack a_t_text : Nat) (v_t_thrown v_t_saved v_t_textLength v_t_place v_t_sign v_t_readLetters v_t_readLength v_t_readNumber : Int32) (f_t_state f_t_stack f_t_text : Nat → Int32) : va_W := [(a_t, .inr (7, [.int v_t_thrown, .ref a_t_state, .ref a_t_kept, .ref a_t_stack, .int v_t_saved, .ref a_t_text, .int v_t_textLength, .int v_t_place, .int v_t_sign, .int v_t_readLetters, .int v_t_readLength, .int v_t_readNumber])), (a_t_state, .inl (cA, 255, .inl f_t_state)), (a_t_stack, .inl (cA, 1020, .inl f_t_stack)), (a_t_text, .inl (cA, 120, .inl f_t_text))]
theorem iX8_runCommands_X8 : ∀ w ∈ wsX80, w ∈ wsX8_runCommands := (fun _ h => List.mem_cons_of_mem _ (List.mem_append_right _ h))
theorem hdX8_runCommands : yX8_runCommands.cls = RX8 ∧ yX8_runCommands.cls ≠ "java/lang/invoke/MethodHandle" ∧ yX8_runCommands.cls ≠ "java/lang/invoke/VarHandle" ∧ (parseMethodDescriptor yX8_runCommands.desc).map (fun d => d.parameters.length) = some 0 := by decide +kernel
set_option maxHeartbeats 4000000 in
set_option maxRecDepth 100000 in
theorem wX8_runCommands_L12 {p : Program} {l : Launch} {e : Env} {s : State} {m : MethodId} {args : Array Value} {below : List Frame} {meth : Method} {c : Code} {Q : State → Prop} {A : Nat → Prop} (dC : Nat → ClassId) (dI : Nat → Nat → Nat) (cA : ClassId) (a_t a_t_state a_t_kept a_t_stack a_t_text : Nat) (v_t_textLength : Int32) (f_t_text : Nat → Int32) (v_t_thrown_L12 v_t_saved_L12 : Int32) (f_t_state_L12 f_t_stack_L12 : Nat → Int32) (y1_12 v_t_place_E12 v_t_sign_E12 v_t_readLetters_E12 v_t_readLength_E12 v_t_readNumber_E12 : Int32) (hx : p.tables.exec = Jvm.exec) (hb : c.code = cX8_runCommands) (hml : c.maxLocals = 4) (hown : s.vm.findClass RX8 = some m.cls) (hts : ∀ w ∈ wsX8_runCommands, w.before args s = true) (hA : ∀ q, s.heap.size ≤ q → A q) (hK : va_K (dC, dI) vwCl [(cA, .int)] s)
    (kk0 : ∀ (H : Heap) (locs : List Loc), va_P (dC, dI) vwCl [(a_t, .inr (7, [.int v_t_thrown_L12, .ref a_t_state, .ref a_t_kept, .ref a_t_stack, .int v_t_saved_L12, .ref a_t_text, .int v_t_textLength, .int v_t_place_E12, .int v_t_sign_E12, .int v_t_readLetters_E12, .int v_t_readLength_E12, .int v_t_readNumber_E12])), (a_t_state, .inl (cA, 255, .inl f_t_state_L12)), (a_t_stack, .inl (cA, 1020, .inl f_t_stack_L12)), (a_t_text, .inl (cA, 120, .inl f_t_text))] H → va_D A [(a_t, .inr (7, [.int v_t_thrown_L12, .ref a_t_state, .ref a_t_kept, .ref a_t_stack, .int v_t_saved_L12, .ref a_t_text, .int v_t_textLength, .int v_t_place_E12, .int v_t_sign_E12, .int v_t_readLetters_E12, .int v_t_readLength_E12, .int v_t_readNumber_E12])), (a_t_state, .inl (cA, 255, .inl f_t_state_L12)), (a_t_stack, .inl (cA, 1020, .inl f_t_stack_L12)), (a_t_text, .inl (cA, 120, .inl f_t_text))] → va_S A s.heap H locs → ∀ ls : Array Slot, lv_has ls 4 [(0, .ref a_t), (1, .int y1_12)] → W p l e (headSpec wsX8_runCommands rmX8_runCommands).room s m args below meth c H locs 0 0 Q (F0 m 35 ls [])) :
    ∀ (n : Nat) (x1_12 v_t_place_L12 v_t_sign_L12 v_t_readLetters_L12 v_t_readLength_L12 v_t_readNumber_L12 : Int32), mX8_runCommands_L12 v_t_textLength f_t_text n x1_12 v_t_place_L12 v_t_sign_L12 v_t_readLetters_L12 v_t_readLength_L12 v_t_readNumber_L12 = some (y1_12, v_t_place_E12, v_t_sign_E12, v_t_readLetters_E12, v_t_readLength_E12, v_t_readNumber_E12) → ∀ (H : Heap) (locs : List Loc), va_P (dC, dI) vwCl [(a_t, .inr (7, [.int v_t_thrown_L12, .ref a_t_state, .ref a_t_kept, .ref a_t_stack, .int v_t_saved_L12, .ref a_t_text, .int v_t_textLength, .int v_t_place_L12, .int v_t_sign_L12, .int v_t_readLetters_L12, .int v_t_readLength_L12, .int v_t_readNumber_L12])), (a_t_state, .inl (cA, 255, .inl f_t_state_L12)), (a_t_stack, .inl (cA, 1020, .inl f_t_stack_L12)), (a_t_text, .inl (cA, 120, .inl f_t_text))] H → va_D A [(a_t, .inr (7, [.int v_t_thrown_L12, .ref a_t_state, .ref a_t_kept, .ref a_t_stack, .int v_t_saved_L12, .ref a_t_text, .int v_t_textLength, .int v_t_place_L12, .int v_t_sign_L12, .int v_t_readLetters_L12, .int v_t_readLength_L12, .int v_t_readNumber_L12])), (a_t_state, .inl (cA, 255, .inl f_t_state_L12)), (a_t_stack, .inl (cA, 1020, .inl f_t_stack_L12)), (a_t_text, .inl (cA, 120, .inl f_t_text))] → va_S A s.heap H locs → ∀ ls : Array Slot, lv_has ls 4 [(0, .ref a_t), (1, .int x1_12)] → W p l e (headSpec wsX8_runCommands rmX8_runCommands).room s m args below meth c H locs 0 0 Q (F0 m 12 ls []) := by
  intro n
  induction n with
  | zero =>
    intro x1_12 v_t_place_L12 v_t_sign_L12 v_t_readLetters_L12 v_t_readLength_L12 v_t_readNumber_L12 hm
    cases hm
  | succ n ih =>
    intro x1_12 v_t_place_L12 v_t_sign_L12 v_t_readLetters_L12 v_t_readLength_L12 v_t_readNumber_L12 hm H locs hP hD hS ls hl
    rw [mX8_runCommands_L12] at hm
    refine lv_iload_n hx hb dX8_runCommands_12 rfl (lv_at hl 1 rfl) ?_
    refine lv_if_eq (tgt := 35) hx hb dX8_runCommands_13 (by decide) (fun c13 => ?_) (fun c13 => ?_)
    · rw [if_pos c13] at hm
      cases hm
      exact kk0 _ _ (hP.sub [0, 1, 2, 3] rfl) (hD.sub [0, 1, 2, 3] (by decide) rfl) hS _ (lv_sub hl [0, 1] rfl)
    · rw [if_neg c13] at hm
      refine lv_aload_n hx hb dX8_runCommands_16 rfl (lv_at hl 0 rfl) ?_
      refine va_get (D := (dC, dI)) (ci := 7) (C := RX8) (T := TX8) (N := 12) hx hb hts iX8_runCommands_X8 hown hK hP 0 rfl rfl 7 (by decide) (hts _ (List.mem_of_getElem? (i := 2) rfl)) (fun _ h9 => h9) rfl dX8_runCommands_17 ?_
      refine lv_aload_n hx hb dX8_runCommands_20 rfl (lv_at hl 0 rfl) ?_
      refine va_get (D := (dC, dI)) (ci := 7) (C := RX8) (T := TX8) (N := 12) hx hb hts iX8_runCommands_X8 hown hK hP 0 rfl rfl 6 (by decide) (hts _ (List.mem_of_getElem? (i := 3) rfl)) (fun _ h9 => h9) rfl dX8_runCommands_21 ?_
      refine lv_icmp_ge (tgt := 35) hx hb dX8_runCommands_24 (by decide) (fun c24 => ?_) (fun c24 => ?_)
      · rw [if_pos c24] at hm
        cases hm
        exact kk0 _ _ (hP.sub [0, 1, 2, 3] rfl) (hD.sub [0, 1, 2, 3] (by decide) rfl) hS _ (lv_sub hl [0, 1] rfl)
      · rw [if_neg c24] at hm
        refine lv_aload_n hx hb dX8_runCommands_27 rfl (lv_at hl 0 rfl) ?_
        obtain ⟨⟨r28, v_t_place_28, v_t_sign_28, v_t_readLetters_28, v_t_readLength_28, v_t_readNumber_28⟩, e28, hm⟩ := bs hm
        try dsimp only at hm
        refine mu_callVz (wr := [(a_t_state, .inl (cA, 255, .inl f_t_state_L12)), (a_t_stack, .inl (cA, 1020, .inl f_t_stack_L12))]) ⟨hx, hb, hml, hown, hts⟩ (kX8_readsCommand l dC dI cA a_t a_t_state a_t_kept a_t_stack a_t_text v_t_thrown_L12 v_t_saved_L12 v_t_textLength v_t_place_L12 v_t_sign_L12 v_t_readLetters_L12 v_t_readLength_L12 v_t_readNumber_L12 f_t_text _ r28 v_t_place_28 v_t_sign_28 v_t_readLetters_28 v_t_readLength_28 v_t_readNumber_28 e28) (cwV 0 hts gX8_runCommands_X8_readsCommand rfl rfl rfl hdX8_readsCommand ⟨Nat.le_of_ble_eq_true rfl, Nat.le_of_ble_eq_true rfl⟩) hP hD hS hA hK [0, 3] [1, 2] rfl rfl rfl rfl (by decide) rfl rfl rfl hl.1 rfl (Nat.le_of_ble_eq_true rfl) dX8_runCommands_28 ⟨Nat.zero_le _, Nat.zero_le _⟩ (fun hb28 H locs hP hD hS => ?_)
        have hP : va_P (dC, dI) vwCl [(a_t_state, .inl (cA, 255, .inl f_t_state_L12)), (a_t_stack, .inl (cA, 1020, .inl f_t_stack_L12)), (a_t, .inr (7, [.int v_t_thrown_L12, .ref a_t_state, .ref a_t_kept, .ref a_t_stack, .int v_t_saved_L12, .ref a_t_text, .int v_t_textLength, .int v_t_place_28, .int v_t_sign_28, .int v_t_readLetters_28, .int v_t_readLength_28, .int v_t_readNumber_28])), (a_t_text, .inl (cA, 120, .inl f_t_text))] H := hP
        have hD : va_D A [(a_t_state, .inl (cA, 255, .inl f_t_state_L12)), (a_t_stack, .inl (cA, 1020, .inl f_t_stack_L12)), (a_t, .inr (7, [.int v_t_thrown_L12, .ref a_t_state, .ref a_t_kept, .ref a_t_stack, .int v_t_saved_L12, .ref a_t_text, .int v_t_textLength, .int v_t_place_28, .int v_t_sign_28, .int v_t_readLetters_28, .int v_t_readLength_28, .int v_t_readNumber_28])), (a_t_text, .inl (cA, 120, .inl f_t_text))] := hD
        refine lv_istore_n (lv' := [(1, .int r28), (0, .ref a_t)]) hx hb dX8_runCommands_31 rfl hl (by decide) rfl (fun ls hl => ?_)
        refine lv_goto (tgt := 12) hx hb dX8_runCommands_32 (by decide) ?_
        exact ih _ _ _ _ _ _ hm _ _ (hP.sub [2, 0, 1, 3] rfl) (hD.sub [2, 0, 1, 3] (by decide) rfl) hS _ (lv_sub hl [1, 0] rfl)
set_option maxHeartbeats 4000000 in
set_option maxRecDepth 100000 in
theorem wX8_runCommands_L60 {p : Program} {l : Launch} {e : Env} {s : State} {m : MethodId} {args : Array Value} {below : List Frame} {meth : Method} {c : Code} {Q : State → Prop} {A : Nat → Prop} (dC : Nat → ClassId) (dI : Nat → Nat → Nat) (cA : ClassId) (a_t a_t_state a_t_kept a_t_stack a_t_text : Nat) (v_t_textLength : Int32) (f_t_text : Nat → Int32) (v_t_thrown_L60 v_t_saved_L60 : Int32) (f_t_stack_L60 : Nat → Int32) (y2_60 y3_60 v_t_place_E60 v_t_sign_E60 v_t_readLetters_E60 v_t_readLength_E60 v_t_readNumber_E60 : Int32) (f_t_state_E60 : Nat → Int32) (hx : p.tables.exec = Jvm.exec) (hb : c.code = cX8_runCommands) (hml : c.maxLocals = 4) (hown : s.vm.findClass RX8 = some m.cls) (hts : ∀ w ∈ wsX8_runCommands, w.before args s = true) (hA : ∀ q, s.heap.size ≤ q → A q) (hK : va_K (dC, dI) vwCl [(cA, .int)] s)
    (kk0 : ∀ (H : Heap) (locs : List Loc), va_P (dC, dI) vwCl [(a_t, .inr (7, [.int v_t_thrown_L60, .ref a_t_state, .ref a_t_kept, .ref a_t_stack, .int v_t_saved_L60, .ref a_t_text, .int v_t_textLength, .int v_t_place_E60, .int v_t_sign_E60, .int v_t_readLetters_E60, .int v_t_readLength_E60, .int v_t_readNumber_E60])), (a_t_state, .inl (cA, 255, .inl f_t_state_E60)), (a_t_stack, .inl (cA, 1020, .inl f_t_stack_L60)), (a_t_text, .inl (cA, 120, .inl f_t_text))] H → va_D A [(a_t, .inr (7, [.int v_t_thrown_L60, .ref a_t_state, .ref a_t_kept, .ref a_t_stack, .int v_t_saved_L60, .ref a_t_text, .int v_t_textLength, .int v_t_place_E60, .int v_t_sign_E60, .int v_t_readLetters_E60, .int v_t_readLength_E60, .int v_t_readNumber_E60])), (a_t_state, .inl (cA, 255, .inl f_t_state_E60)), (a_t_stack, .inl (cA, 1020, .inl f_t_stack_L60)), (a_t_text, .inl (cA, 120, .inl f_t_text))] → va_S A s.heap H locs → ∀ ls : Array Slot, lv_has ls 4 [(0, .ref a_t), (2, .int y2_60), (3, .int y3_60)] → W p l e (headSpec wsX8_runCommands rmX8_runCommands).room s m args below meth c H locs 0 0 Q (F0 m 100 ls [])) :
    ∀ (n : Nat) (x2_60 x3_60 v_t_place_L60 v_t_sign_L60 v_t_readLetters_L60 v_t_readLength_L60 v_t_readNumber_L60 : Int32) (f_t_state_L60 : Nat → Int32), mX8_runCommands_L60 v_t_textLength f_t_text n x2_60 x3_60 v_t_place_L60 v_t_sign_L60 v_t_readLetters_L60 v_t_readLength_L60 v_t_readNumber_L60 f_t_state_L60 = some (y2_60, y3_60, v_t_place_E60, v_t_sign_E60, v_t_readLetters_E60, v_t_readLength_E60, v_t_readNumber_E60, f_t_state_E60) → ∀ (H : Heap) (locs : List Loc), va_P (dC, dI) vwCl [(a_t, .inr (7, [.int v_t_thrown_L60, .ref a_t_state, .ref a_t_kept, .ref a_t_stack, .int v_t_saved_L60, .ref a_t_text, .int v_t_textLength, .int v_t_place_L60, .int v_t_sign_L60, .int v_t_readLetters_L60, .int v_t_readLength_L60, .int v_t_readNumber_L60])), (a_t_state, .inl (cA, 255, .inl f_t_state_L60)), (a_t_stack, .inl (cA, 1020, .inl f_t_stack_L60)), (a_t_text, .inl (cA, 120, .inl f_t_text))] H → va_D A [(a_t, .inr (7, [.int v_t_thrown_L60, .ref a_t_state, .ref a_t_kept, .ref a_t_stack, .int v_t_saved_L60, .ref a_t_text, .int v_t_textLength, .int v_t_place_L60, .int v_t_sign_L60, .int v_t_readLetters_L60, .int v_t_readLength_L60, .int v_t_readNumber_L60])), (a_t_state, .inl (cA, 255, .inl f_t_state_L60)), (a_t_stack, .inl (cA, 1020, .inl f_t_stack_L60)), (a_t_text, .inl (cA, 120, .inl f_t_text))] → va_S A s.heap H locs → ∀ ls : Array Slot, lv_has ls 4 [(0, .ref a_t), (2, .int x2_60), (3, .int x3_60)] → W p l e (headSpec wsX8_runCommands rmX8_runCommands).room s m args below meth c H locs 0 0 Q (F0 m 60 ls []) := by
  intro n
  induction n with
  | zero =>
    intro x2_60 x3_60 v_t_place_L60 v_t_sign_L60 v_t_readLetters_L60 v_t_readLength_L60 v_t_readNumber_L60 f_t_state_L60 hm
    cases hm
  | succ n ih =>
    intro x2_60 x3_60 v_t_place_L60 v_t_sign_L60 v_t_readLetters_L60 v_t_readLength_L60 v_t_readNumber_L60 f_t_state_L60 hm H locs hP hD hS ls hl
    rw [mX8_runCommands_L60] at hm
    refine lv_iload_n hx hb dX8_runCommands_60 rfl (lv_at hl 2 rfl) ?_
    refine lv_if_eq (tgt := 100) hx hb dX8_runCommands_61 (by decide) (fun c61 => ?_) (fun c61 => ?_)
    · rw [if_pos c61] at hm
      cases hm
      exact kk0 _ _ (hP.sub [0, 1, 2, 3] rfl) (hD.sub [0, 1, 2, 3] (by decide) rfl) hS _ (lv_sub hl [0, 1, 2] rfl)
    · rw [if_neg c61] at hm
      refine lv_aload_n hx hb dX8_runCommands_64 rfl (lv_at hl 0 rfl) ?_
      refine va_get (D := (dC, dI)) (ci := 7) (C := RX8) (T := TX8) (N := 12) hx hb hts iX8_runCommands_X8 hown hK hP 0 rfl rfl 7 (by decide) (hts _ (List.mem_of_getElem? (i := 2) rfl)) (fun _ h9 => h9) rfl dX8_runCommands_65 ?_
      refine lv_aload_n hx hb dX8_runCommands_68 rfl (lv_at hl 0 rfl) ?_
      refine va_get (D := (dC, dI)) (ci := 7) (C := RX8) (T := TX8) (N := 12) hx hb hts iX8_runCommands_X8 hown hK hP 0 rfl rfl 6 (by decide) (hts _ (List.mem_of_getElem? (i := 3) rfl)) (fun _ h9 => h9) rfl dX8_runCommands_69 ?_
      refine lv_icmp_ge (tgt := 100) hx hb dX8_runCommands_72 (by decide) (fun c72 => ?_) (fun c72 => ?_)
      · rw [if_pos c72] at hm
        cases hm
        exact kk0 _ _ (hP.sub [0, 1, 2, 3] rfl) (hD.sub [0, 1, 2, 3] (by decide) rfl) hS _ (lv_sub hl [0, 1, 2] rfl)
      · rw [if_neg c72] at hm
        refine lv_aload_n hx hb dX8_runCommands_75 rfl (lv_at hl 0 rfl) ?_
        obtain ⟨⟨r76, v_t_place_76, v_t_sign_76, v_t_readLetters_76, v_t_readLength_76, v_t_readNumber_76⟩, e76, hm⟩ := bs hm
        try dsimp only at hm
        refine mu_callVz (wr := [(a_t_state, .inl (cA, 255, .inl f_t_state_L60)), (a_t_stack, .inl (cA, 1020, .inl f_t_stack_L60))]) ⟨hx, hb, hml, hown, hts⟩ (kX8_readsCommand l dC dI cA a_t a_t_state a_t_kept a_t_stack a_t_text v_t_thrown_L60 v_t_saved_L60 v_t_textLength v_t_place_L60 v_t_sign_L60 v_t_readLetters_L60 v_t_readLength_L60 v_t_readNumber_L60 f_t_text _ r76 v_t_place_76 v_t_sign_76 v_t_readLetters_76 v_t_readLength_76 v_t_readNumber_76 e76) (cwV 0 hts gX8_runCommands_X8_readsCommand rfl rfl rfl hdX8_readsCommand ⟨Nat.le_of_ble_eq_true rfl, Nat.le_of_ble_eq_true rfl⟩) hP hD hS hA hK [0, 3] [1, 2] rfl rfl rfl rfl (by decide) rfl rfl rfl hl.1 rfl (Nat.le_of_ble_eq_true rfl) dX8_runCommands_76 ⟨Nat.zero_le _, Nat.zero_le _⟩ (fun hb76 H locs hP hD hS => ?_)
        have hP : va_P (dC, dI) vwCl [(a_t_state, .inl (cA, 255, .inl f_t_state_L60)), (a_t_stack, .inl (cA, 1020, .inl f_t_stack_L60)), (a_t, .inr (7, [.int v_t_thrown_L60, .ref a_t_state, .ref a_t_kept, .ref a_t_stack, .int v_t_saved_L60, .ref a_t_text, .int v_t_textLength, .int v_t_place_76, .int v_t_sign_76, .int v_t_readLetters_76, .int v_t_readLength_76, .int v_t_readNumber_76])), (a_t_text, .inl (cA, 120, .inl f_t_text))] H := hP
        have hD : va_D A [(a_t_state, .inl (cA, 255, .inl f_t_state_L60)), (a_t_stack, .inl (cA, 1020, .inl f_t_stack_L60)), (a_t, .inr (7, [.int v_t_thrown_L60, .ref a_t_state, .ref a_t_kept, .ref a_t_stack, .int v_t_saved_L60, .ref a_t_text, .int v_t_textLength, .int v_t_place_76, .int v_t_sign_76, .int v_t_readLetters_76, .int v_t_readLength_76, .int v_t_readNumber_76])), (a_t_text, .inl (cA, 120, .inl f_t_text))] := hD
        refine lv_pop hx hb dX8_runCommands_79 rfl ?_
        refine lv_aload_n hx hb dX8_runCommands_80 rfl (lv_at hl 0 rfl) ?_
        obtain ⟨⟨r81, f_t_state_81⟩, e81, hm⟩ := bs hm
        try dsimp only at hm
        refine mu_callVz (wr := [(a_t_stack, .inl (cA, 1020, .inl f_t_stack_L60)), (a_t_text, .inl (cA, 120, .inl f_t_text))]) ⟨hx, hb, hml, hown, hts⟩ (kX8_carriesOut l dC dI cA a_t a_t_state a_t_kept a_t_stack a_t_text v_t_thrown_L60 v_t_saved_L60 v_t_textLength v_t_place_76 v_t_sign_76 v_t_readLetters_76 v_t_readLength_76 v_t_readNumber_76 f_t_state_L60 _ r81 f_t_state_81 e81) (cwV 0 hts gX8_runCommands_X8_carriesOut rfl rfl rfl hdX8_carriesOut ⟨Nat.le_of_ble_eq_true rfl, Nat.le_of_ble_eq_true rfl⟩) hP hD hS hA hK [2, 0] [1, 3] rfl rfl rfl rfl (by decide) rfl rfl rfl hl.1 rfl (Nat.le_of_ble_eq_true rfl) dX8_runCommands_81 ⟨Nat.zero_le _, Nat.zero_le _⟩ (fun hb81 H locs hP hD hS => ?_)
        have hP : va_P (dC, dI) vwCl [(a_t_stack, .inl (cA, 1020, .inl f_t_stack_L60)), (a_t_text, .inl (cA, 120, .inl f_t_text)), (a_t, .inr (7, [.int v_t_thrown_L60, .ref a_t_state, .ref a_t_kept, .ref a_t_stack, .int v_t_saved_L60, .ref a_t_text, .int v_t_textLength, .int v_t_place_76, .int v_t_sign_76, .int v_t_readLetters_76, .int v_t_readLength_76, .int v_t_readNumber_76])), (a_t_state, .inl (cA, 255, .inl f_t_state_81))] H := hP
        have hD : va_D A [(a_t_stack, .inl (cA, 1020, .inl f_t_stack_L60)), (a_t_text, .inl (cA, 120, .inl f_t_text)), (a_t, .inr (7, [.int v_t_thrown_L60, .ref a_t_state, .ref a_t_kept, .ref a_t_stack, .int v_t_saved_L60, .ref a_t_text, .int v_t_textLength, .int v_t_place_76, .int v_t_sign_76, .int v_t_readLetters_76, .int v_t_readLength_76, .int v_t_readNumber_76])), (a_t_state, .inl (cA, 255, .inl f_t_state_81))] := hD
        refine lv_istore_n (lv' := [(3, .int r81), (0, .ref a_t), (2, .int x2_60)]) hx hb dX8_runCommands_84 rfl hl (by decide) rfl (fun ls hl => ?_)
        refine lv_iload_n hx hb dX8_runCommands_85 rfl (lv_at hl 2 rfl) ?_
        refine lv_iload_n hx hb dX8_runCommands_86 rfl (lv_at hl 0 rfl) ?_
        refine lv_if_eq (tgt := 94) hx hb dX8_runCommands_87 (by decide) (fun c87 => ?_) (fun c87 => ?_)
        · try simp only [if_pos c87] at hm
          refine lv_iconst (v := 0) hx hb dX8_runCommands_94 (by decide) ?_
          refine lv_iadd hx hb dX8_runCommands_95 ?_
          refine lv_istore_n (lv' := [(2, .int (x2_60 + 0)), (3, .int r81), (0, .ref a_t)]) hx hb dX8_runCommands_96 rfl hl (by decide) rfl (fun ls hl => ?_)
          refine lv_goto (tgt := 60) hx hb dX8_runCommands_97 (by decide) ?_
          exact ih _ _ _ _ _ _ _ _ hm _ _ (hP.sub [2, 3, 0, 1] rfl) (hD.sub [2, 3, 0, 1] (by decide) rfl) hS _ (lv_sub hl [2, 0, 1] rfl)
        · try simp only [if_neg c87] at hm
          refine lv_iconst (v := 1) hx hb dX8_runCommands_90 (by decide) ?_
          refine lv_goto (tgt := 95) hx hb dX8_runCommands_91 (by decide) ?_
          refine lv_iadd hx hb dX8_runCommands_95 ?_
          refine lv_istore_n (lv' := [(2, .int (x2_60 + 1)), (3, .int r81), (0, .ref a_t)]) hx hb dX8_runCommands_96 rfl hl (by decide) rfl (fun ls hl => ?_)
          refine lv_goto (tgt := 60) hx hb dX8_runCommands_97 (by decide) ?_
          exact ih _ _ _ _ _ _ _ _ hm _ _ (hP.sub [2, 3, 0, 1] rfl) (hD.sub [2, 3, 0, 1] (by decide) rfl) hS _ (lv_sub hl [2, 0, 1] rfl)
set_option maxHeartbeats 4000000 in
set_option maxRecDepth 100000 in
theorem kX8_runCommands (l : Launch) (dC : Nat → ClassId) (dI : Nat → Nat → Nat) (cA : ClassId) (a_t a_t_state a_t_kept a_t_stack a_t_text : Nat) (v_t_thrown v_t_saved v_t_textLength v_t_place v_t_sign v_t_readLetters v_t_readLength v_t_readNumber : Int32) (f_t_state f_t_stack f_t_text : Nat → Int32) (sz : Nat) (r o_v_t_thrown o_v_t_saved o_v_t_place o_v_t_sign o_v_t_readLetters o_v_t_readLength o_v_t_readNumber : Int32) (o_f_t_state o_f_t_stack : Nat → Int32) (hm : (mX8_runCommands v_t_saved v_t_textLength v_t_sign v_t_readLetters v_t_readLength v_t_readNumber f_t_state f_t_stack f_t_text) = some (r, o_v_t_thrown, o_v_t_saved, o_v_t_place, o_v_t_sign, o_v_t_readLetters, o_v_t_readLength, o_v_t_readNumber, o_f_t_state, o_f_t_stack)) : Met l yX8_runCommands wsX8_runCommands rmX8_runCommands (mpc (dC, dI) [(cA, .int)] (wX8_runCommands cA a_t a_t_state a_t_kept a_t_stack a_t_text v_t_thrown v_t_saved v_t_textLength v_t_place v_t_sign v_t_readLetters v_t_readLength v_t_readNumber f_t_state f_t_stack f_t_text) [.ref a_t] sz) (mqi (dC, dI) [(cA, .int)] (va_A (wX8_runCommands cA a_t a_t_state a_t_kept a_t_stack a_t_text v_t_thrown v_t_saved v_t_textLength v_t_place v_t_sign v_t_readLetters v_t_readLength v_t_readNumber f_t_state f_t_stack f_t_text) sz) (wX8_runCommands cA a_t a_t_state a_t_kept a_t_stack a_t_text o_v_t_thrown o_v_t_saved v_t_textLength o_v_t_place o_v_t_sign o_v_t_readLetters o_v_t_readLength o_v_t_readNumber o_f_t_state o_f_t_stack f_t_text) (fun x => x = r)) 0 0 (va_A (wX8_runCommands cA a_t a_t_state a_t_kept a_t_stack a_t_text v_t_thrown v_t_saved v_t_textLength v_t_place v_t_sign v_t_readLetters v_t_readLength v_t_readNumber f_t_state f_t_stack f_t_text) sz) := by
  unfold mX8_runCommands at hm
  refine mu_ofW (Qc := fun A => mqi (dC, dI) [(cA, .int)] A (wX8_runCommands cA a_t a_t_state a_t_kept a_t_stack a_t_text o_v_t_thrown o_v_t_saved v_t_textLength o_v_t_place o_v_t_sign o_v_t_readLetters o_v_t_readLength o_v_t_readNumber o_f_t_state o_f_t_stack f_t_text) (fun x => x = r)) (cc := cX8_runCommands) (maxL := 4) (ret := (some .int)) (own := RX8) (by decide) rfl rfl (Nat.le_of_ble_eq_true rfl) ?_
  intro p e s m args below meth c hx hb hr hts hown hlocks hml hin A hA hP hD hS hK ls hl
  have hl : lv_has ls 4 [(0, .ref a_t)] := hl
  have hP : va_P (dC, dI) vwCl [(a_t, .inr (7, [.int v_t_thrown, .ref a_t_state, .ref a_t_kept, .ref a_t_stack, .int v_t_saved, .ref a_t_text, .int v_t_textLength, .int v_t_place, .int v_t_sign, .int v_t_readLetters, .int v_t_readLength, .int v_t_readNumber])), (a_t_state, .inl (cA, 255, .inl f_t_state)), (a_t_stack, .inl (cA, 1020, .inl f_t_stack)), (a_t_text, .inl (cA, 120, .inl f_t_text))] s.heap := hP
  have hD : va_D A [(a_t, .inr (7, [.int v_t_thrown, .ref a_t_state, .ref a_t_kept, .ref a_t_stack, .int v_t_saved, .ref a_t_text, .int v_t_textLength, .int v_t_place, .int v_t_sign, .int v_t_readLetters, .int v_t_readLength, .int v_t_readNumber])), (a_t_state, .inl (cA, 255, .inl f_t_state)), (a_t_stack, .inl (cA, 1020, .inl f_t_stack)), (a_t_text, .inl (cA, 120, .inl f_t_text))] := hD
  refine lv_aload_n hx hb dX8_runCommands_0 rfl (lv_at hl 0 rfl) ?_
  refine lv_iconst (v := 0) hx hb dX8_runCommands_1 (by decide) ?_
  refine va_put (D := (dC, dI)) (ci := 7) (C := RX8) (T := TX8) (N := 12) (ty := .int) hx hb hts iX8_runCommands_X8 tyX8 tyX8_ok nmX8 hown hK hP hD hS 0 rfl rfl 0 (by decide) (hts _ (List.mem_of_getElem? (i := 1) rfl)) (fun _ h9 => h9) rfl (by decide +kernel) rfl rfl (Nat.le_of_ble_eq_true rfl) dX8_runCommands_2 (fun H locs hP hD hS => ?_)
  have hP : va_P (dC, dI) vwCl [(a_t, .inr (7, [.int 0, .ref a_t_state, .ref a_t_kept, .ref a_t_stack, .int v_t_saved, .ref a_t_text, .int v_t_textLength, .int v_t_place, .int v_t_sign, .int v_t_readLetters, .int v_t_readLength, .int v_t_readNumber])), (a_t_state, .inl (cA, 255, .inl f_t_state)), (a_t_stack, .inl (cA, 1020, .inl f_t_stack)), (a_t_text, .inl (cA, 120, .inl f_t_text))] H := hP
  have hD : va_D A [(a_t, .inr (7, [.int 0, .ref a_t_state, .ref a_t_kept, .ref a_t_stack, .int v_t_saved, .ref a_t_text, .int v_t_textLength, .int v_t_place, .int v_t_sign, .int v_t_readLetters, .int v_t_readLength, .int v_t_readNumber])), (a_t_state, .inl (cA, 255, .inl f_t_state)), (a_t_stack, .inl (cA, 1020, .inl f_t_stack)), (a_t_text, .inl (cA, 120, .inl f_t_text))] := hD
  refine lv_aload_n hx hb dX8_runCommands_5 rfl (lv_at hl 0 rfl) ?_
  refine lv_iconst (v := 0) hx hb dX8_runCommands_6 (by decide) ?_
  refine va_put (D := (dC, dI)) (ci := 7) (C := RX8) (T := TX8) (N := 12) (ty := .int) hx hb hts iX8_runCommands_X8 tyX8 tyX8_ok nmX8 hown hK hP hD hS 0 rfl rfl 7 (by decide) (hts _ (List.mem_of_getElem? (i := 2) rfl)) (fun _ h9 => h9) rfl (by decide +kernel) rfl rfl (Nat.le_of_ble_eq_true rfl) dX8_runCommands_7 (fun H locs hP hD hS => ?_)
  have hP : va_P (dC, dI) vwCl [(a_t, .inr (7, [.int 0, .ref a_t_state, .ref a_t_kept, .ref a_t_stack, .int v_t_saved, .ref a_t_text, .int v_t_textLength, .int 0, .int v_t_sign, .int v_t_readLetters, .int v_t_readLength, .int v_t_readNumber])), (a_t_state, .inl (cA, 255, .inl f_t_state)), (a_t_stack, .inl (cA, 1020, .inl f_t_stack)), (a_t_text, .inl (cA, 120, .inl f_t_text))] H := hP
  have hD : va_D A [(a_t, .inr (7, [.int 0, .ref a_t_state, .ref a_t_kept, .ref a_t_stack, .int v_t_saved, .ref a_t_text, .int v_t_textLength, .int 0, .int v_t_sign, .int v_t_readLetters, .int v_t_readLength, .int v_t_readNumber])), (a_t_state, .inl (cA, 255, .inl f_t_state)), (a_t_stack, .inl (cA, 1020, .inl f_t_stack)), (a_t_text, .inl (cA, 120, .inl f_t_text))] := hD
  refine lv_iconst (v := 1) hx hb dX8_runCommands_10 (by decide) ?_
  refine lv_istore_n (lv' := [(1, .int 1), (0, .ref a_t)]) hx hb dX8_runCommands_11 rfl hl (by decide) rfl (fun ls hl => ?_)
  obtain ⟨⟨y1_12, v_t_place_E12, v_t_sign_E12, v_t_readLetters_E12, v_t_readLength_E12, v_t_readNumber_E12⟩, e12, hm⟩ := bs hm
  try dsimp only at hm
  refine wX8_runCommands_L12 dC dI cA a_t a_t_state a_t_kept a_t_stack a_t_text v_t_textLength f_t_text 0 v_t_saved f_t_state f_t_stack y1_12 v_t_place_E12 v_t_sign_E12 v_t_readLetters_E12 v_t_readLength_E12 v_t_readNumber_E12 hx hb hml hown hts hA hK ?_ FU _ _ _ _ _ _ e12 _ _ (hP.sub [0, 1, 2, 3] rfl) (hD.sub [0, 1, 2, 3] (by decide) rfl) hS _ (lv_sub hl [1, 0] rfl)
  · intro H locs hP hD hS ls hl
    refine lv_iload_n hx hb dX8_runCommands_35 rfl (lv_at hl 1 rfl) ?_
    refine lv_if_ne (tgt := 47) hx hb dX8_runCommands_36 (by decide) (fun c36 => ?_) (fun c36 => ?_)
    · rw [if_neg c36] at hm
      refine lv_aload_n hx hb dX8_runCommands_47 rfl (lv_at hl 0 rfl) ?_
      obtain ⟨⟨v_t_saved_48, f_t_stack_48⟩, e48, hm⟩ := bs hm
      try dsimp only at hm
      refine mu_callVv (wr := [(a_t_text, .inl (cA, 120, .inl f_t_text))]) ⟨hx, hb, hml, hown, hts⟩ (kX8_save l dC dI cA a_t a_t_state a_t_kept a_t_stack a_t_text 0 v_t_saved v_t_textLength v_t_place_E12 v_t_sign_E12 v_t_readLetters_E12 v_t_readLength_E12 v_t_readNumber_E12 f_t_state f_t_stack _ v_t_saved_48 f_t_stack_48 e48) (cwV 0 hts gX8_runCommands_X8_save rfl rfl rfl hdX8_save ⟨Nat.le_of_ble_eq_true rfl, Nat.le_of_ble_eq_true rfl⟩) hP hD hS hA hK [0, 1, 2] [3] rfl rfl rfl rfl (by decide) rfl rfl rfl hl.1 rfl (Nat.le_of_ble_eq_true rfl) dX8_runCommands_48 ⟨Nat.zero_le _, Nat.zero_le _⟩ (fun H locs hP hD hS => ?_)
      have hP : va_P (dC, dI) vwCl [(a_t_text, .inl (cA, 120, .inl f_t_text)), (a_t, .inr (7, [.int 0, .ref a_t_state, .ref a_t_kept, .ref a_t_stack, .int v_t_saved_48, .ref a_t_text, .int v_t_textLength, .int v_t_place_E12, .int v_t_sign_E12, .int v_t_readLetters_E12, .int v_t_readLength_E12, .int v_t_readNumber_E12])), (a_t_state, .inl (cA, 255, .inl f_t_state)), (a_t_stack, .inl (cA, 1020, .inl f_t_stack_48))] H := hP
      have hD : va_D A [(a_t_text, .inl (cA, 120, .inl f_t_text)), (a_t, .inr (7, [.int 0, .ref a_t_state, .ref a_t_kept, .ref a_t_stack, .int v_t_saved_48, .ref a_t_text, .int v_t_textLength, .int v_t_place_E12, .int v_t_sign_E12, .int v_t_readLetters_E12, .int v_t_readLength_E12, .int v_t_readNumber_E12])), (a_t_state, .inl (cA, 255, .inl f_t_state)), (a_t_stack, .inl (cA, 1020, .inl f_t_stack_48))] := hD
      refine lv_aload_n hx hb dX8_runCommands_51 rfl (lv_at hl 0 rfl) ?_
      refine lv_iconst (v := 0) hx hb dX8_runCommands_52 (by decide) ?_
      refine va_put (D := (dC, dI)) (ci := 7) (C := RX8) (T := TX8) (N := 12) (ty := .int) hx hb hts iX8_runCommands_X8 tyX8 tyX8_ok nmX8 hown hK hP hD hS 1 rfl rfl 7 (by decide) (hts _ (List.mem_of_getElem? (i := 2) rfl)) (fun _ h9 => h9) rfl (by decide +kernel) rfl rfl (Nat.le_of_ble_eq_true rfl) dX8_runCommands_53 (fun H locs hP hD hS => ?_)
      have hP : va_P (dC, dI) vwCl [(a_t_text, .inl (cA, 120, .inl f_t_text)), (a_t, .inr (7, [.int 0, .ref a_t_state, .ref a_t_kept, .ref a_t_stack, .int v_t_saved_48, .ref a_t_text, .int v_t_textLength, .int 0, .int v_t_sign_E12, .int v_t_readLetters_E12, .int v_t_readLength_E12, .int v_t_readNumber_E12])), (a_t_state, .inl (cA, 255, .inl f_t_state)), (a_t_stack, .inl (cA, 1020, .inl f_t_stack_48))] H := hP
      have hD : va_D A [(a_t_text, .inl (cA, 120, .inl f_t_text)), (a_t, .inr (7, [.int 0, .ref a_t_state, .ref a_t_kept, .ref a_t_stack, .int v_t_saved_48, .ref a_t_text, .int v_t_textLength, .int 0, .int v_t_sign_E12, .int v_t_readLetters_E12, .int v_t_readLength_E12, .int v_t_readNumber_E12])), (a_t_state, .inl (cA, 255, .inl f_t_state)), (a_t_stack, .inl (cA, 1020, .inl f_t_stack_48))] := hD
      refine lv_iconst (v := 0) hx hb dX8_runCommands_56 (by decide) ?_
      refine lv_istore_n (lv' := [(2, .int 0), (0, .ref a_t), (1, .int y1_12)]) hx hb dX8_runCommands_57 rfl hl (by decide) rfl (fun ls hl => ?_)
      refine lv_iconst (v := 1) hx hb dX8_runCommands_58 (by decide) ?_
      refine lv_istore_n (lv' := [(3, .int 1), (2, .int 0), (0, .ref a_t), (1, .int y1_12)]) hx hb dX8_runCommands_59 rfl hl (by decide) rfl (fun ls hl => ?_)
      obtain ⟨⟨y2_60, y3_60, v_t_place_E60, v_t_sign_E60, v_t_readLetters_E60, v_t_readLength_E60, v_t_readNumber_E60, f_t_state_E60⟩, e60, hm⟩ := bs hm
      try dsimp only at hm
      refine wX8_runCommands_L60 dC dI cA a_t a_t_state a_t_kept a_t_stack a_t_text v_t_textLength f_t_text 0 v_t_saved_48 f_t_stack_48 y2_60 y3_60 v_t_place_E60 v_t_sign_E60 v_t_readLetters_E60 v_t_readLength_E60 v_t_readNumber_E60 f_t_state_E60 hx hb hml hown hts hA hK ?_ FU _ _ _ _ _ _ _ _ e60 _ _ (hP.sub [1, 2, 3, 0] rfl) (hD.sub [1, 2, 3, 0] (by decide) rfl) hS _ (lv_sub hl [2, 1, 0] rfl)
      · intro H locs hP hD hS ls hl
        refine lv_iload_n hx hb dX8_runCommands_100 rfl (lv_at hl 1 rfl) ?_
        simp only [Option.some.injEq, Prod.mk.injEq] at hm
        obtain ⟨rfl, rfl, rfl, rfl, rfl, rfl, rfl, rfl, rfl, rfl⟩ := hm
        exact mu_iret hx hb hr rfl rfl hP hD hS hK [0, 1, 2, 3] rfl (by decide) dX8_runCommands_101 hlocks
    · rw [if_pos c36] at hm
      refine lv_bipush (v := (-10)) hx hb dX8_runCommands_39 (by decide) ?_
      refine lv_aload_n hx hb dX8_runCommands_41 rfl (lv_at hl 0 rfl) ?_
      refine va_get (D := (dC, dI)) (ci := 7) (C := RX8) (T := TX8) (N := 12) hx hb hts iX8_runCommands_X8 hown hK hP 0 rfl rfl 7 (by decide) (hts _ (List.mem_of_getElem? (i := 2) rfl)) (fun _ h9 => h9) rfl dX8_runCommands_42 ?_
      refine lv_isub hx hb dX8_runCommands_45 ?_
      simp only [Option.some.injEq, Prod.mk.injEq] at hm
      obtain ⟨rfl, rfl, rfl, rfl, rfl, rfl, rfl, rfl, rfl, rfl⟩ := hm
      exact mu_iret hx hb hr rfl rfl hP hD hS hK [0, 1, 2, 3] rfl (by decide) dX8_runCommands_46 hlocks
def mX8_undo (v_t_saved : Int32) (f_t_state : Nat → Int32) (f_t_stack : Nat → Int32) : Option (Int32 × Int32 × Int32 × (Nat → Int32)) :=
  (if (if v_t_saved ≤ 0 then (1 : Int32) else 0) ≤ 0 then
    ((mX8_copy 1020 255 f_t_stack f_t_state ((v_t_saved - 1) * 255) 0).bind fun f_t_state_52 =>
    some ((v_t_saved - 1), (if v_t_saved ≤ 0 then (1 : Int32) else 0), (v_t_saved - 1), f_t_state_52))
  else
    some (0, (if v_t_saved ≤ 0 then (1 : Int32) else 0), v_t_saved, f_t_state))
abbrev rmX8_undo : Room := { frames := 1, cells := 0, slots := 0, locals := 24 }
abbrev wX8_undo (cA : ClassId) (a_t a_t_state a_t_kept a_t_stack a_t_text : Nat) (v_t_thrown v_t_saved v_t_textLength v_t_place v_t_sign v_t_readLetters v_t_readLength v_t_readNumber : Int32) (f_t_state f_t_stack : Nat → Int32) : va_W := [(a_t, .inr (7, [.int v_t_thrown, .ref a_t_state, .ref a_t_kept, .ref a_t_stack, .int v_t_saved, .ref a_t_text, .int v_t_textLength, .int v_t_place, .int v_t_sign, .int v_t_readLetters, .int v_t_readLength, .int v_t_readNumber])), (a_t_state, .inl (cA, 255, .inl f_t_state)), (a_t_stack, .inl (cA, 1020, .inl f_t_stack))]
theorem iX8_undo_X8 : ∀ w ∈ wsX80, w ∈ wsX8_undo := (fun _ h => List.mem_cons_of_mem _ (List.mem_append_right _ h))
theorem hdX8_undo : yX8_undo.cls = RX8 ∧ yX8_undo.cls ≠ "java/lang/invoke/MethodHandle" ∧ yX8_undo.cls ≠ "java/lang/invoke/VarHandle" ∧ (parseMethodDescriptor yX8_undo.desc).map (fun d => d.parameters.length) = some 0 := by decide +kernel
set_option maxHeartbeats 4000000 in
set_option maxRecDepth 100000 in
theorem kX8_undo (l : Launch) (dC : Nat → ClassId) (dI : Nat → Nat → Nat) (cA : ClassId) (a_t a_t_state a_t_kept a_t_stack a_t_text : Nat) (v_t_thrown v_t_saved v_t_textLength v_t_place v_t_sign v_t_readLetters v_t_readLength v_t_readNumber : Int32) (f_t_state f_t_stack : Nat → Int32) (sz : Nat) (r o_v_t_thrown o_v_t_saved : Int32) (o_f_t_state : Nat → Int32) (hm : (mX8_undo v_t_saved f_t_state f_t_stack) = some (r, o_v_t_thrown, o_v_t_saved, o_f_t_state)) : Met l yX8_undo wsX8_undo rmX8_undo (mpc (dC, dI) [(cA, .int)] (wX8_undo cA a_t a_t_state a_t_kept a_t_stack a_t_text v_t_thrown v_t_saved v_t_textLength v_t_place v_t_sign v_t_readLetters v_t_readLength v_t_readNumber f_t_state f_t_stack) [.ref a_t] sz) (mqi (dC, dI) [(cA, .int)] (va_A (wX8_undo cA a_t a_t_state a_t_kept a_t_stack a_t_text v_t_thrown v_t_saved v_t_textLength v_t_place v_t_sign v_t_readLetters v_t_readLength v_t_readNumber f_t_state f_t_stack) sz) (wX8_undo cA a_t a_t_state a_t_kept a_t_stack a_t_text o_v_t_thrown o_v_t_saved v_t_textLength v_t_place v_t_sign v_t_readLetters v_t_readLength v_t_readNumber o_f_t_state f_t_stack) (fun x => x = r)) 0 0 (va_A (wX8_undo cA a_t a_t_state a_t_kept a_t_stack a_t_text v_t_thrown v_t_saved v_t_textLength v_t_place v_t_sign v_t_readLetters v_t_readLength v_t_readNumber f_t_state f_t_stack) sz) := by
  unfold mX8_undo at hm
  refine mu_ofW (Qc := fun A => mqi (dC, dI) [(cA, .int)] A (wX8_undo cA a_t a_t_state a_t_kept a_t_stack a_t_text o_v_t_thrown o_v_t_saved v_t_textLength v_t_place v_t_sign v_t_readLetters v_t_readLength v_t_readNumber o_f_t_state f_t_stack) (fun x => x = r)) (cc := cX8_undo) (maxL := 1) (ret := (some .int)) (own := RX8) (by decide) rfl rfl (Nat.le_of_ble_eq_true rfl) ?_
  intro p e s m args below meth c hx hb hr hts hown hlocks hml hin A hA hP hD hS hK ls hl
  have hl : lv_has ls 1 [(0, .ref a_t)] := hl
  have hP : va_P (dC, dI) vwCl [(a_t, .inr (7, [.int v_t_thrown, .ref a_t_state, .ref a_t_kept, .ref a_t_stack, .int v_t_saved, .ref a_t_text, .int v_t_textLength, .int v_t_place, .int v_t_sign, .int v_t_readLetters, .int v_t_readLength, .int v_t_readNumber])), (a_t_state, .inl (cA, 255, .inl f_t_state)), (a_t_stack, .inl (cA, 1020, .inl f_t_stack))] s.heap := hP
  have hD : va_D A [(a_t, .inr (7, [.int v_t_thrown, .ref a_t_state, .ref a_t_kept, .ref a_t_stack, .int v_t_saved, .ref a_t_text, .int v_t_textLength, .int v_t_place, .int v_t_sign, .int v_t_readLetters, .int v_t_readLength, .int v_t_readNumber])), (a_t_state, .inl (cA, 255, .inl f_t_state)), (a_t_stack, .inl (cA, 1020, .inl f_t_stack))] := hD
  refine lv_aload_n hx hb dX8_undo_0 rfl (lv_at hl 0 rfl) ?_
  refine lv_aload_n hx hb dX8_undo_1 rfl (lv_at hl 0 rfl) ?_
  refine va_get (D := (dC, dI)) (ci := 7) (C := RX8) (T := TX8) (N := 12) hx hb hts iX8_undo_X8 hown hK hP 0 rfl rfl 4 (by decide) (hts _ (List.mem_of_getElem? (i := 1) rfl)) (fun _ h9 => h9) rfl dX8_undo_2 ?_
  refine lv_if_le (tgt := 12) hx hb dX8_undo_5 (by decide) (fun c5 => ?_) (fun c5 => ?_)
  · try simp only [if_pos c5] at hm
    refine lv_iconst (v := 1) hx hb dX8_undo_12 (by decide) ?_
    refine va_put (D := (dC, dI)) (ci := 7) (C := RX8) (T := TX8) (N := 12) (ty := .int) hx hb hts iX8_undo_X8 tyX8 tyX8_ok nmX8 hown hK hP hD hS 0 rfl rfl 0 (by decide) (hts _ (List.mem_of_getElem? (i := 2) rfl)) (fun _ h9 => h9) rfl (by decide +kernel) rfl rfl (Nat.le_of_ble_eq_true rfl) dX8_undo_13 (fun H locs hP hD hS => ?_)
    have hP : va_P (dC, dI) vwCl [(a_t, .inr (7, [.int 1, .ref a_t_state, .ref a_t_kept, .ref a_t_stack, .int v_t_saved, .ref a_t_text, .int v_t_textLength, .int v_t_place, .int v_t_sign, .int v_t_readLetters, .int v_t_readLength, .int v_t_readNumber])), (a_t_state, .inl (cA, 255, .inl f_t_state)), (a_t_stack, .inl (cA, 1020, .inl f_t_stack))] H := hP
    have hD : va_D A [(a_t, .inr (7, [.int 1, .ref a_t_state, .ref a_t_kept, .ref a_t_stack, .int v_t_saved, .ref a_t_text, .int v_t_textLength, .int v_t_place, .int v_t_sign, .int v_t_readLetters, .int v_t_readLength, .int v_t_readNumber])), (a_t_state, .inl (cA, 255, .inl f_t_state)), (a_t_stack, .inl (cA, 1020, .inl f_t_stack))] := hD
    refine lv_aload_n hx hb dX8_undo_16 rfl (lv_at hl 0 rfl) ?_
    refine va_get (D := (dC, dI)) (ci := 7) (C := RX8) (T := TX8) (N := 12) hx hb hts iX8_undo_X8 hown hK hP 0 rfl rfl 0 (by decide) (hts _ (List.mem_of_getElem? (i := 2) rfl)) (fun _ h9 => h9) rfl dX8_undo_17 ?_
    refine lv_if_le (tgt := 25) hx hb dX8_undo_20 (by decide) (fun c20 => absurd c20 (by decide)) (fun c20 => ?_)
    try rw [if_neg (show ¬ ((1 : Int32) ≤ 0) by decide)] at hm
    refine lv_iconst (v := 0) hx hb dX8_undo_23 (by decide) ?_
    cases hm
    exact mu_iret hx hb hr rfl rfl hP hD hS hK [0, 1, 2] rfl (by decide) dX8_undo_24 hlocks
  · try simp only [if_neg c5] at hm
    refine lv_iconst (v := 0) hx hb dX8_undo_8 (by decide) ?_
    refine lv_goto (tgt := 13) hx hb dX8_undo_9 (by decide) ?_
    refine va_put (D := (dC, dI)) (ci := 7) (C := RX8) (T := TX8) (N := 12) (ty := .int) hx hb hts iX8_undo_X8 tyX8 tyX8_ok nmX8 hown hK hP hD hS 0 rfl rfl 0 (by decide) (hts _ (List.mem_of_getElem? (i := 2) rfl)) (fun _ h9 => h9) rfl (by decide +kernel) rfl rfl (Nat.le_of_ble_eq_true rfl) dX8_undo_13 (fun H locs hP hD hS => ?_)
    have hP : va_P (dC, dI) vwCl [(a_t, .inr (7, [.int 0, .ref a_t_state, .ref a_t_kept, .ref a_t_stack, .int v_t_saved, .ref a_t_text, .int v_t_textLength, .int v_t_place, .int v_t_sign, .int v_t_readLetters, .int v_t_readLength, .int v_t_readNumber])), (a_t_state, .inl (cA, 255, .inl f_t_state)), (a_t_stack, .inl (cA, 1020, .inl f_t_stack))] H := hP
    have hD : va_D A [(a_t, .inr (7, [.int 0, .ref a_t_state, .ref a_t_kept, .ref a_t_stack, .int v_t_saved, .ref a_t_text, .int v_t_textLength, .int v_t_place, .int v_t_sign, .int v_t_readLetters, .int v_t_readLength, .int v_t_readNumber])), (a_t_state, .inl (cA, 255, .inl f_t_state)), (a_t_stack, .inl (cA, 1020, .inl f_t_stack))] := hD
    refine lv_aload_n hx hb dX8_undo_16 rfl (lv_at hl 0 rfl) ?_
    refine va_get (D := (dC, dI)) (ci := 7) (C := RX8) (T := TX8) (N := 12) hx hb hts iX8_undo_X8 hown hK hP 0 rfl rfl 0 (by decide) (hts _ (List.mem_of_getElem? (i := 2) rfl)) (fun _ h9 => h9) rfl dX8_undo_17 ?_
    refine lv_if_le (tgt := 25) hx hb dX8_undo_20 (by decide) (fun c20 => ?_) (fun c20 => absurd c20 (by decide))
    try rw [if_pos (show (0 : Int32) ≤ 0 by decide)] at hm
    refine lv_aload_n hx hb dX8_undo_25 rfl (lv_at hl 0 rfl) ?_
    refine lv_dup hx hb dX8_undo_26 rfl ?_
    refine va_get (D := (dC, dI)) (ci := 7) (C := RX8) (T := TX8) (N := 12) hx hb hts iX8_undo_X8 hown hK hP 0 rfl rfl 4 (by decide) (hts _ (List.mem_of_getElem? (i := 1) rfl)) (fun _ h9 => h9) rfl dX8_undo_27 ?_
    refine lv_iconst (v := 1) hx hb dX8_undo_30 (by decide) ?_
    refine lv_isub hx hb dX8_undo_31 ?_
    refine va_put (D := (dC, dI)) (ci := 7) (C := RX8) (T := TX8) (N := 12) (ty := .int) hx hb hts iX8_undo_X8 tyX8 tyX8_ok nmX8 hown hK hP hD hS 0 rfl rfl 4 (by decide) (hts _ (List.mem_of_getElem? (i := 1) rfl)) (fun _ h9 => h9) rfl (by decide +kernel) rfl rfl (Nat.le_of_ble_eq_true rfl) dX8_undo_32 (fun H locs hP hD hS => ?_)
    have hP : va_P (dC, dI) vwCl [(a_t, .inr (7, [.int 0, .ref a_t_state, .ref a_t_kept, .ref a_t_stack, .int (v_t_saved - 1), .ref a_t_text, .int v_t_textLength, .int v_t_place, .int v_t_sign, .int v_t_readLetters, .int v_t_readLength, .int v_t_readNumber])), (a_t_state, .inl (cA, 255, .inl f_t_state)), (a_t_stack, .inl (cA, 1020, .inl f_t_stack))] H := hP
    have hD : va_D A [(a_t, .inr (7, [.int 0, .ref a_t_state, .ref a_t_kept, .ref a_t_stack, .int (v_t_saved - 1), .ref a_t_text, .int v_t_textLength, .int v_t_place, .int v_t_sign, .int v_t_readLetters, .int v_t_readLength, .int v_t_readNumber])), (a_t_state, .inl (cA, 255, .inl f_t_state)), (a_t_stack, .inl (cA, 1020, .inl f_t_stack))] := hD
    refine lv_aload_n hx hb dX8_undo_35 rfl (lv_at hl 0 rfl) ?_
    refine va_get (D := (dC, dI)) (ci := 7) (C := RX8) (T := TX8) (N := 12) hx hb hts iX8_undo_X8 hown hK hP 0 rfl rfl 3 (by decide) (hts _ (List.mem_of_getElem? (i := 3) rfl)) (fun _ h9 => h9) rfl dX8_undo_36 ?_
    refine lv_aload_n hx hb dX8_undo_39 rfl (lv_at hl 0 rfl) ?_
    refine va_get (D := (dC, dI)) (ci := 7) (C := RX8) (T := TX8) (N := 12) hx hb hts iX8_undo_X8 hown hK hP 0 rfl rfl 4 (by decide) (hts _ (List.mem_of_getElem? (i := 1) rfl)) (fun _ h9 => h9) rfl dX8_undo_40 ?_
    refine lv_sipush (v := 255) hx hb dX8_undo_43 (by decide) ?_
    refine lv_imul hx hb dX8_undo_46 ?_
    refine lv_aload_n hx hb dX8_undo_47 rfl (lv_at hl 0 rfl) ?_
    refine va_get (D := (dC, dI)) (ci := 7) (C := RX8) (T := TX8) (N := 12) hx hb hts iX8_undo_X8 hown hK hP 0 rfl rfl 1 (by decide) (hts _ (List.mem_of_getElem? (i := 4) rfl)) (fun _ h9 => h9) rfl dX8_undo_48 ?_
    refine lv_iconst (v := 0) hx hb dX8_undo_51 (by decide) ?_
    obtain ⟨f_t_state_52, e52, hm⟩ := bs hm
    try dsimp only at hm
    refine mu_callSv (wr := [(a_t, .inr (7, [.int 0, .ref a_t_state, .ref a_t_kept, .ref a_t_stack, .int (v_t_saved - 1), .ref a_t_text, .int v_t_textLength, .int v_t_place, .int v_t_sign, .int v_t_readLetters, .int v_t_readLength, .int v_t_readNumber]))]) ⟨hx, hb, hml, hown, hts⟩ (kX8_copy l dC dI cA a_t_stack a_t_state 1020 255 (by decide) (by decide) f_t_stack f_t_state ((v_t_saved - 1) * 255) 0 _ f_t_state_52 e52) (va_cwS 4 hts gX8_undo_X8_copy rfl rfl rfl hdX8_copy.2 ⟨Nat.le_of_ble_eq_true rfl, Nat.le_of_ble_eq_true rfl⟩) hP hD hS hA hK [2, 1] [0] rfl rfl rfl rfl (by decide) rfl hl.1 rfl (Nat.le_of_ble_eq_true rfl) dX8_undo_52 ⟨Nat.zero_le _, Nat.zero_le _⟩ (fun H locs hP hD hS => ?_)
    have hP : va_P (dC, dI) vwCl [(a_t, .inr (7, [.int 0, .ref a_t_state, .ref a_t_kept, .ref a_t_stack, .int (v_t_saved - 1), .ref a_t_text, .int v_t_textLength, .int v_t_place, .int v_t_sign, .int v_t_readLetters, .int v_t_readLength, .int v_t_readNumber])), (a_t_stack, .inl (cA, 1020, .inl f_t_stack)), (a_t_state, .inl (cA, 255, .inl f_t_state_52))] H := hP
    have hD : va_D A [(a_t, .inr (7, [.int 0, .ref a_t_state, .ref a_t_kept, .ref a_t_stack, .int (v_t_saved - 1), .ref a_t_text, .int v_t_textLength, .int v_t_place, .int v_t_sign, .int v_t_readLetters, .int v_t_readLength, .int v_t_readNumber])), (a_t_stack, .inl (cA, 1020, .inl f_t_stack)), (a_t_state, .inl (cA, 255, .inl f_t_state_52))] := hD
    refine lv_aload_n hx hb dX8_undo_55 rfl (lv_at hl 0 rfl) ?_
    refine va_get (D := (dC, dI)) (ci := 7) (C := RX8) (T := TX8) (N := 12) hx hb hts iX8_undo_X8 hown hK hP 0 rfl rfl 4 (by decide) (hts _ (List.mem_of_getElem? (i := 1) rfl)) (fun _ h9 => h9) rfl dX8_undo_56 ?_
    cases hm
    exact mu_iret hx hb hr rfl rfl hP hD hS hK [0, 2, 1] rfl (by decide) dX8_undo_59 hlocks
def mX8_digest_L17 (v_t_textLength : Int32) (f_t_state : Nat → Int32) : Nat → (Int64) → (Int32) → Option (Int64 × Int32)
  | 0, _, _ => none
  | n + 1, x1_17, x3_17 =>
    (if 11 < x3_17 then
      some (x1_17, x3_17)
    else
      ((mX8_wholeValue v_t_textLength f_t_state x3_17).bind fun r30 =>
      mX8_digest_L17 v_t_textLength f_t_state n (((31 : Int64) * x1_17) + (r30).toInt64) (x3_17 + 1)))
def mX8_digest_L57 (f_t_state : Nat → Int32) (x3_57 : Int32) : Nat → (Int64) → (Int32) → Option (Int64 × Int32)
  | 0, _, _ => none
  | n + 1, x1_57, x4_57 =>
    (if 3 < x4_57 then
      some (x1_57, x4_57)
    else
      ((mX8_nameValue f_t_state x3_57 x4_57).bind fun r72 =>
      mX8_digest_L57 f_t_state x3_57 n (((31 : Int64) * x1_57) + (r72).toInt64) (x4_57 + 1)))
def mX8_digest_L44 (f_t_state : Nat → Int32) : Nat → (Int64) → (Int32) → Option (Int64 × Int32)
  | 0, _, _ => none
  | n + 1, x1_44, x3_44 =>
    (if (f_t_state 1) ≤ x3_44 then
      some (x1_44, x3_44)
    else
      ((mX8_digest_L57 f_t_state x3_44 FU x1_44 0).bind fun (y1_57, y4_57) =>
      mX8_digest_L44 f_t_state n y1_57 (x3_44 + 1)))
def mX8_digest_L105 (f_t_state : Nat → Int32) (x3_105 : Int32) : Nat → (Int64) → (Int32) → Option (Int64 × Int32)
  | 0, _, _ => none
  | n + 1, x1_105, x4_105 =>
    (if 8 < x4_105 then
      some (x1_105, x4_105)
    else
      ((mX8_houseValue f_t_state x3_105 x4_105).bind fun r121 =>
      mX8_digest_L105 f_t_state x3_105 n (((31 : Int64) * x1_105) + (r121).toInt64) (x4_105 + 1)))
def mX8_digest_L92 (f_t_state : Nat → Int32) : Nat → (Int64) → (Int32) → Option (Int64 × Int32)
  | 0, _, _ => none
  | n + 1, x1_92, x3_92 =>
    (if (f_t_state 2) ≤ x3_92 then
      some (x1_92, x3_92)
    else
      ((mX8_digest_L105 f_t_state x3_92 FU x1_92 0).bind fun (y1_105, y4_105) =>
      ((mX8_saves f_t_state x3_92).bind fun r140 =>
      mX8_digest_L92 f_t_state n (((31 : Int64) * y1_105) + (r140).toInt64) (x3_92 + 1))))
def mX8_digest (v_t_saved : Int32) (v_t_textLength : Int32) (f_t_state : Nat → Int32) : Option (Int64 × Int32) :=
  ((mX8_digest_L17 v_t_textLength f_t_state FU ((1348624 : Int64) + (v_t_saved).toInt64) 0).bind fun (y1_17, y3_17) =>
  ((mX8_digest_L44 f_t_state FU y1_17 0).bind fun (y1_44, y3_44) =>
  ((mX8_digest_L92 f_t_state FU y1_44 0).bind fun (y1_92, y3_92) =>
  ((mX8_tourOf f_t_state).bind fun r158 =>
  ((mX8_bestOf f_t_state).bind fun r170 =>
  some ((((31 : Int64) * (((31 : Int64) * y1_92) + (r158).toInt64)) + (r170).toInt64), 0))))))
abbrev rmX8_digest : Room := { frames := 9, cells := 0, slots := 0, locals := 193 }
abbrev wX8_digest (cA : ClassId) (a_t a_t_state a_t_kept a_t_stack a_t_text : Nat) (v_t_thrown v_t_saved v_t_textLength v_t_place v_t_sign v_t_readLetters v_t_readLength v_t_readNumber : Int32) (f_t_state : Nat → Int32) : va_W := [(a_t, .inr (7, [.int v_t_thrown, .ref a_t_state, .ref a_t_kept, .ref a_t_stack, .int v_t_saved, .ref a_t_text, .int v_t_textLength, .int v_t_place, .int v_t_sign, .int v_t_readLetters, .int v_t_readLength, .int v_t_readNumber])), (a_t_state, .inl (cA, 255, .inl f_t_state))]
theorem iX8_digest_X8 : ∀ w ∈ wsX80, w ∈ wsX8_digest := (fun _ h => List.mem_cons_of_mem _ (List.mem_append_right _ h))
theorem hdX8_digest : yX8_digest.cls = RX8 ∧ yX8_digest.cls ≠ "java/lang/invoke/MethodHandle" ∧ yX8_digest.cls ≠ "java/lang/invoke/VarHandle" ∧ (parseMethodDescriptor yX8_digest.desc).map (fun d => d.parameters.length) = some 0 := by decide +kernel
set_option maxHeartbeats 4000000 in
set_option maxRecDepth 100000 in
theorem wX8_digest_L17 {p : Program} {l : Launch} {e : Env} {s : State} {m : MethodId} {args : Array Value} {below : List Frame} {meth : Method} {c : Code} {Q : State → Prop} {A : Nat → Prop} (dC : Nat → ClassId) (dI : Nat → Nat → Nat) (cA : ClassId) (a_t a_t_state a_t_kept a_t_stack a_t_text : Nat) (v_t_saved v_t_textLength v_t_place v_t_sign v_t_readLetters v_t_readLength v_t_readNumber : Int32) (f_t_state : Nat → Int32) (v_t_thrown_L17 : Int32) (y1_17 : Int64) (y3_17 : Int32) (hx : p.tables.exec = Jvm.exec) (hb : c.code = cX8_digest) (hml : c.maxLocals = 5) (hown : s.vm.findClass RX8 = some m.cls) (hts : ∀ w ∈ wsX8_digest, w.before args s = true) (hA : ∀ q, s.heap.size ≤ q → A q) (hK : va_K (dC, dI) vwCl [(cA, .int)] s)
    (kk0 : ∀ (H : Heap) (locs : List Loc), va_P (dC, dI) vwCl [(a_t, .inr (7, [.int v_t_thrown_L17, .ref a_t_state, .ref a_t_kept, .ref a_t_stack, .int v_t_saved, .ref a_t_text, .int v_t_textLength, .int v_t_place, .int v_t_sign, .int v_t_readLetters, .int v_t_readLength, .int v_t_readNumber])), (a_t_state, .inl (cA, 255, .inl f_t_state))] H → va_D A [(a_t, .inr (7, [.int v_t_thrown_L17, .ref a_t_state, .ref a_t_kept, .ref a_t_stack, .int v_t_saved, .ref a_t_text, .int v_t_textLength, .int v_t_place, .int v_t_sign, .int v_t_readLetters, .int v_t_readLength, .int v_t_readNumber])), (a_t_state, .inl (cA, 255, .inl f_t_state))] → va_S A s.heap H locs → ∀ ls : Array Slot, lv_has ls 5 [(0, .ref a_t), (1, .long y1_17), (3, .int y3_17)] → W p l e (headSpec wsX8_digest rmX8_digest).room s m args below meth c H locs 0 0 Q (F0 m 42 ls [])) :
    ∀ (n : Nat) (x1_17 : Int64) (x3_17 : Int32), mX8_digest_L17 v_t_textLength f_t_state n x1_17 x3_17 = some (y1_17, y3_17) → ∀ (H : Heap) (locs : List Loc), va_P (dC, dI) vwCl [(a_t, .inr (7, [.int v_t_thrown_L17, .ref a_t_state, .ref a_t_kept, .ref a_t_stack, .int v_t_saved, .ref a_t_text, .int v_t_textLength, .int v_t_place, .int v_t_sign, .int v_t_readLetters, .int v_t_readLength, .int v_t_readNumber])), (a_t_state, .inl (cA, 255, .inl f_t_state))] H → va_D A [(a_t, .inr (7, [.int v_t_thrown_L17, .ref a_t_state, .ref a_t_kept, .ref a_t_stack, .int v_t_saved, .ref a_t_text, .int v_t_textLength, .int v_t_place, .int v_t_sign, .int v_t_readLetters, .int v_t_readLength, .int v_t_readNumber])), (a_t_state, .inl (cA, 255, .inl f_t_state))] → va_S A s.heap H locs → ∀ ls : Array Slot, lv_has ls 5 [(0, .ref a_t), (1, .long x1_17), (3, .int x3_17)] → W p l e (headSpec wsX8_digest rmX8_digest).room s m args below meth c H locs 0 0 Q (F0 m 17 ls []) := by
  intro n
  induction n with
  | zero =>
    intro x1_17 x3_17 hm
    cases hm
  | succ n ih =>
    intro x1_17 x3_17 hm H locs hP hD hS ls hl
    rw [mX8_digest_L17] at hm
    refine lv_iload_n hx hb dX8_digest_17 rfl (lv_at hl 2 rfl) ?_
    refine lv_bipush (v := 11) hx hb dX8_digest_18 (by decide) ?_
    refine lv_icmp_gt (tgt := 42) hx hb dX8_digest_20 (by decide) (fun c20 => ?_) (fun c20 => ?_)
    · rw [if_pos c20] at hm
      cases hm
      exact kk0 _ _ (hP.sub [0, 1] rfl) (hD.sub [0, 1] (by decide) rfl) hS _ (lv_sub hl [0, 1, 2] rfl)
    · rw [if_neg c20] at hm
      refine lv_ldc2 (v := (31 : Int64)) hx hb hown (hts _ (List.mem_of_getElem? (i := 4) rfl)) dX8_digest_23 ?_
      refine lv_lload_n hx hb dX8_digest_26 rfl (lv_at hl 1 rfl) ?_
      refine lv_lmul hx hb dX8_digest_27 ?_
      refine lv_aload_n hx hb dX8_digest_28 rfl (lv_at hl 0 rfl) ?_
      refine lv_iload_n hx hb dX8_digest_29 rfl (lv_at hl 2 rfl) ?_
      obtain ⟨r30, e30, hm⟩ := bs hm
      try dsimp only at hm
      refine ro_callVe ⟨hx, hb, hml, hown, hts⟩ (kX8_wholeValue l dC dI cA a_t a_t_state a_t_kept a_t_stack a_t_text v_t_thrown_L17 v_t_saved v_t_textLength v_t_place v_t_sign v_t_readLetters v_t_readLength v_t_readNumber f_t_state x3_17 r30 e30) (cwV 1 hts gX8_digest_X8_wholeValue rfl rfl rfl hdX8_wholeValue ⟨Nat.le_of_ble_eq_true rfl, Nat.le_of_ble_eq_true rfl⟩) (hP.sub [0, 1] rfl) hK rfl rfl rfl hl.1 rfl (Nat.le_of_ble_eq_true rfl) dX8_digest_30 ⟨Nat.zero_le _, Nat.zero_le _⟩ ?_
      refine lv_i2l hx hb dX8_digest_33 rfl ?_
      refine lv_ladd hx hb dX8_digest_34 ?_
      refine lv_lstore_n (lv' := [(1, .long (((31 : Int64) * x1_17) + (r30).toInt64)), (0, .ref a_t), (3, .int x3_17)]) hx hb dX8_digest_35 rfl hl (by decide) rfl (fun ls hl => ?_)
      refine lv_iinc (v := (x3_17 + 1)) (lv' := [(3, .int (x3_17 + 1)), (1, .long (((31 : Int64) * x1_17) + (r30).toInt64)), (0, .ref a_t)]) hx hb dX8_digest_36 hl (k := 2) rfl rfl (by decide) rfl (fun ls hl => ?_)
      refine lv_goto (tgt := 17) hx hb dX8_digest_39 (by decide) ?_
      exact ih _ _ hm _ _ (hP.sub [0, 1] rfl) (hD.sub [0, 1] (by decide) rfl) hS _ (lv_sub hl [2, 1, 0] rfl)
set_option maxHeartbeats 4000000 in
set_option maxRecDepth 100000 in
theorem wX8_digest_L57 {p : Program} {l : Launch} {e : Env} {s : State} {m : MethodId} {args : Array Value} {below : List Frame} {meth : Method} {c : Code} {Q : State → Prop} {A : Nat → Prop} (dC : Nat → ClassId) (dI : Nat → Nat → Nat) (cA : ClassId) (a_t a_t_state a_t_kept a_t_stack a_t_text : Nat) (v_t_saved v_t_textLength v_t_place v_t_sign v_t_readLetters v_t_readLength v_t_readNumber : Int32) (f_t_state : Nat → Int32) (x3_57 v_t_thrown_L57 : Int32) (y1_57 : Int64) (y4_57 : Int32) (hx : p.tables.exec = Jvm.exec) (hb : c.code = cX8_digest) (hml : c.maxLocals = 5) (hown : s.vm.findClass RX8 = some m.cls) (hts : ∀ w ∈ wsX8_digest, w.before args s = true) (hA : ∀ q, s.heap.size ≤ q → A q) (hK : va_K (dC, dI) vwCl [(cA, .int)] s)
    (kk0 : ∀ (H : Heap) (locs : List Loc), va_P (dC, dI) vwCl [(a_t, .inr (7, [.int v_t_thrown_L57, .ref a_t_state, .ref a_t_kept, .ref a_t_stack, .int v_t_saved, .ref a_t_text, .int v_t_textLength, .int v_t_place, .int v_t_sign, .int v_t_readLetters, .int v_t_readLength, .int v_t_readNumber])), (a_t_state, .inl (cA, 255, .inl f_t_state))] H → va_D A [(a_t, .inr (7, [.int v_t_thrown_L57, .ref a_t_state, .ref a_t_kept, .ref a_t_stack, .int v_t_saved, .ref a_t_text, .int v_t_textLength, .int v_t_place, .int v_t_sign, .int v_t_readLetters, .int v_t_readLength, .int v_t_readNumber])), (a_t_state, .inl (cA, 255, .inl f_t_state))] → va_S A s.heap H locs → ∀ ls : Array Slot, lv_has ls 5 [(0, .ref a_t), (1, .long y1_57), (3, .int x3_57), (4, .int y4_57)] → W p l e (headSpec wsX8_digest rmX8_digest).room s m args below meth c H locs 0 0 Q (F0 m 84 ls [])) :
    ∀ (n : Nat) (x1_57 : Int64) (x4_57 : Int32), mX8_digest_L57 f_t_state x3_57 n x1_57 x4_57 = some (y1_57, y4_57) → ∀ (H : Heap) (locs : List Loc), va_P (dC, dI) vwCl [(a_t, .inr (7, [.int v_t_thrown_L57, .ref a_t_state, .ref a_t_kept, .ref a_t_stack, .int v_t_saved, .ref a_t_text, .int v_t_textLength, .int v_t_place, .int v_t_sign, .int v_t_readLetters, .int v_t_readLength, .int v_t_readNumber])), (a_t_state, .inl (cA, 255, .inl f_t_state))] H → va_D A [(a_t, .inr (7, [.int v_t_thrown_L57, .ref a_t_state, .ref a_t_kept, .ref a_t_stack, .int v_t_saved, .ref a_t_text, .int v_t_textLength, .int v_t_place, .int v_t_sign, .int v_t_readLetters, .int v_t_readLength, .int v_t_readNumber])), (a_t_state, .inl (cA, 255, .inl f_t_state))] → va_S A s.heap H locs → ∀ ls : Array Slot, lv_has ls 5 [(0, .ref a_t), (1, .long x1_57), (3, .int x3_57), (4, .int x4_57)] → W p l e (headSpec wsX8_digest rmX8_digest).room s m args below meth c H locs 0 0 Q (F0 m 57 ls []) := by
  intro n
  induction n with
  | zero =>
    intro x1_57 x4_57 hm
    cases hm
  | succ n ih =>
    intro x1_57 x4_57 hm H locs hP hD hS ls hl
    rw [mX8_digest_L57] at hm
    refine lv_iload hx hb dX8_digest_57 (lv_at hl 3 rfl) ?_
    refine lv_iconst (v := 3) hx hb dX8_digest_59 (by decide) ?_
    refine lv_icmp_gt (tgt := 84) hx hb dX8_digest_60 (by decide) (fun c60 => ?_) (fun c60 => ?_)
    · rw [if_pos c60] at hm
      cases hm
      exact kk0 _ _ (hP.sub [0, 1] rfl) (hD.sub [0, 1] (by decide) rfl) hS _ (lv_sub hl [0, 1, 2, 3] rfl)
    · rw [if_neg c60] at hm
      refine lv_ldc2 (v := (31 : Int64)) hx hb hown (hts _ (List.mem_of_getElem? (i := 4) rfl)) dX8_digest_63 ?_
      refine lv_lload_n hx hb dX8_digest_66 rfl (lv_at hl 1 rfl) ?_
      refine lv_lmul hx hb dX8_digest_67 ?_
      refine lv_aload_n hx hb dX8_digest_68 rfl (lv_at hl 0 rfl) ?_
      refine lv_iload_n hx hb dX8_digest_69 rfl (lv_at hl 2 rfl) ?_
      refine lv_iload hx hb dX8_digest_70 (lv_at hl 3 rfl) ?_
      obtain ⟨r72, e72, hm⟩ := bs hm
      try dsimp only at hm
      refine ro_callVe ⟨hx, hb, hml, hown, hts⟩ (kX8_nameValue l dC dI cA a_t a_t_state a_t_kept a_t_stack a_t_text v_t_thrown_L57 v_t_saved v_t_textLength v_t_place v_t_sign v_t_readLetters v_t_readLength v_t_readNumber f_t_state x3_57 x4_57 r72 e72) (cwV 2 hts gX8_digest_X8_nameValue rfl rfl rfl hdX8_nameValue ⟨Nat.le_of_ble_eq_true rfl, Nat.le_of_ble_eq_true rfl⟩) (hP.sub [0, 1] rfl) hK rfl rfl rfl hl.1 rfl (Nat.le_of_ble_eq_true rfl) dX8_digest_72 ⟨Nat.zero_le _, Nat.zero_le _⟩ ?_
      refine lv_i2l hx hb dX8_digest_75 rfl ?_
      refine lv_ladd hx hb dX8_digest_76 ?_
      refine lv_lstore_n (lv' := [(1, .long (((31 : Int64) * x1_57) + (r72).toInt64)), (0, .ref a_t), (3, .int x3_57), (4, .int x4_57)]) hx hb dX8_digest_77 rfl hl (by decide) rfl (fun ls hl => ?_)
      refine lv_iinc (v := (x4_57 + 1)) (lv' := [(4, .int (x4_57 + 1)), (1, .long (((31 : Int64) * x1_57) + (r72).toInt64)), (0, .ref a_t), (3, .int x3_57)]) hx hb dX8_digest_78 hl (k := 3) rfl rfl (by decide) rfl (fun ls hl => ?_)
      refine lv_goto (tgt := 57) hx hb dX8_digest_81 (by decide) ?_
      exact ih _ _ hm _ _ (hP.sub [0, 1] rfl) (hD.sub [0, 1] (by decide) rfl) hS _ (lv_sub hl [2, 1, 3, 0] rfl)
set_option maxHeartbeats 4000000 in
set_option maxRecDepth 100000 in
theorem wX8_digest_L44 {p : Program} {l : Launch} {e : Env} {s : State} {m : MethodId} {args : Array Value} {below : List Frame} {meth : Method} {c : Code} {Q : State → Prop} {A : Nat → Prop} (dC : Nat → ClassId) (dI : Nat → Nat → Nat) (cA : ClassId) (a_t a_t_state a_t_kept a_t_stack a_t_text : Nat) (v_t_saved v_t_textLength v_t_place v_t_sign v_t_readLetters v_t_readLength v_t_readNumber : Int32) (f_t_state : Nat → Int32) (v_t_thrown_L44 : Int32) (y1_44 : Int64) (y3_44 : Int32) (hx : p.tables.exec = Jvm.exec) (hb : c.code = cX8_digest) (hml : c.maxLocals = 5) (hown : s.vm.findClass RX8 = some m.cls) (hts : ∀ w ∈ wsX8_digest, w.before args s = true) (hA : ∀ q, s.heap.size ≤ q → A q) (hK : va_K (dC, dI) vwCl [(cA, .int)] s)
    (kk0 : ∀ (H : Heap) (locs : List Loc), va_P (dC, dI) vwCl [(a_t, .inr (7, [.int v_t_thrown_L44, .ref a_t_state, .ref a_t_kept, .ref a_t_stack, .int v_t_saved, .ref a_t_text, .int v_t_textLength, .int v_t_place, .int v_t_sign, .int v_t_readLetters, .int v_t_readLength, .int v_t_readNumber])), (a_t_state, .inl (cA, 255, .inl f_t_state))] H → va_D A [(a_t, .inr (7, [.int v_t_thrown_L44, .ref a_t_state, .ref a_t_kept, .ref a_t_stack, .int v_t_saved, .ref a_t_text, .int v_t_textLength, .int v_t_place, .int v_t_sign, .int v_t_readLetters, .int v_t_readLength, .int v_t_readNumber])), (a_t_state, .inl (cA, 255, .inl f_t_state))] → va_S A s.heap H locs → ∀ ls : Array Slot, lv_has ls 5 [(0, .ref a_t), (1, .long y1_44), (3, .int y3_44)] → W p l e (headSpec wsX8_digest rmX8_digest).room s m args below meth c H locs 0 0 Q (F0 m 90 ls [])) :
    ∀ (n : Nat) (x1_44 : Int64) (x3_44 : Int32), mX8_digest_L44 f_t_state n x1_44 x3_44 = some (y1_44, y3_44) → ∀ (H : Heap) (locs : List Loc), va_P (dC, dI) vwCl [(a_t, .inr (7, [.int v_t_thrown_L44, .ref a_t_state, .ref a_t_kept, .ref a_t_stack, .int v_t_saved, .ref a_t_text, .int v_t_textLength, .int v_t_place, .int v_t_sign, .int v_t_readLetters, .int v_t_readLength, .int v_t_readNumber])), (a_t_state, .inl (cA, 255, .inl f_t_state))] H → va_D A [(a_t, .inr (7, [.int v_t_thrown_L44, .ref a_t_state, .ref a_t_kept, .ref a_t_stack, .int v_t_saved, .ref a_t_text, .int v_t_textLength, .int v_t_place, .int v_t_sign, .int v_t_readLetters, .int v_t_readLength, .int v_t_readNumber])), (a_t_state, .inl (cA, 255, .inl f_t_state))] → va_S A s.heap H locs → ∀ ls : Array Slot, lv_has ls 5 [(0, .ref a_t), (1, .long x1_44), (3, .int x3_44)] → W p l e (headSpec wsX8_digest rmX8_digest).room s m args below meth c H locs 0 0 Q (F0 m 44 ls []) := by
  intro n
  induction n with
  | zero =>
    intro x1_44 x3_44 hm
    cases hm
  | succ n ih =>
    intro x1_44 x3_44 hm H locs hP hD hS ls hl
    rw [mX8_digest_L44] at hm
    refine lv_iload_n hx hb dX8_digest_44 rfl (lv_at hl 2 rfl) ?_
    refine lv_aload_n hx hb dX8_digest_45 rfl (lv_at hl 0 rfl) ?_
    refine va_get (D := (dC, dI)) (ci := 7) (C := RX8) (T := TX8) (N := 12) hx hb hts iX8_digest_X8 hown hK hP 0 rfl rfl 1 (by decide) (hts _ (List.mem_of_getElem? (i := 5) rfl)) (fun _ h9 => h9) rfl dX8_digest_46 ?_
    refine lv_iconst (v := 1) hx hb dX8_digest_49 (by decide) ?_
    refine xa_ldK hx hb hK hP 1 0 rfl rfl 1 rfl (by decide) (by decide) dX8_digest_50 ?_
    refine lv_icmp_ge (tgt := 90) hx hb dX8_digest_51 (by decide) (fun c51 => ?_) (fun c51 => ?_)
    · rw [if_pos c51] at hm
      cases hm
      exact kk0 _ _ (hP.sub [0, 1] rfl) (hD.sub [0, 1] (by decide) rfl) hS _ (lv_sub hl [0, 1, 2] rfl)
    · rw [if_neg c51] at hm
      refine lv_iconst (v := 0) hx hb dX8_digest_54 (by decide) ?_
      refine lv_istore (lv' := [(4, .int 0), (0, .ref a_t), (1, .long x1_44), (3, .int x3_44)]) hx hb dX8_digest_55 hl (by decide) rfl (fun ls hl => ?_)
      obtain ⟨⟨y1_57, y4_57⟩, e57, hm⟩ := bs hm
      try dsimp only at hm
      refine wX8_digest_L57 dC dI cA a_t a_t_state a_t_kept a_t_stack a_t_text v_t_saved v_t_textLength v_t_place v_t_sign v_t_readLetters v_t_readLength v_t_readNumber f_t_state x3_44 v_t_thrown_L44 y1_57 y4_57 hx hb hml hown hts hA hK ?_ FU _ _ e57 _ _ (hP.sub [0, 1] rfl) (hD.sub [0, 1] (by decide) rfl) hS _ (lv_sub hl [1, 2, 3, 0] rfl)
      · intro H locs hP hD hS ls hl
        refine lv_iinc (v := (x3_44 + 1)) (lv' := [(3, .int (x3_44 + 1)), (0, .ref a_t), (1, .long y1_57), (4, .int y4_57)]) hx hb dX8_digest_84 hl (k := 2) rfl rfl (by decide) rfl (fun ls hl => ?_)
        refine lv_goto (tgt := 44) hx hb dX8_digest_87 (by decide) ?_
        exact ih _ _ hm _ _ (hP.sub [0, 1] rfl) (hD.sub [0, 1] (by decide) rfl) hS _ (lv_sub hl [1, 2, 0] rfl)
set_option maxHeartbeats 4000000 in
set_option maxRecDepth 100000 in
theorem wX8_digest_L105 {p : Program} {l : Launch} {e : Env} {s : State} {m : MethodId} {args : Array Value} {below : List Frame} {meth : Method} {c : Code} {Q : State → Prop} {A : Nat → Prop} (dC : Nat → ClassId) (dI : Nat → Nat → Nat) (cA : ClassId) (a_t a_t_state a_t_kept a_t_stack a_t_text : Nat) (v_t_saved v_t_textLength v_t_place v_t_sign v_t_readLetters v_t_readLength v_t_readNumber : Int32) (f_t_state : Nat → Int32) (x3_105 v_t_thrown_L105 : Int32) (y1_105 : Int64) (y4_105 : Int32) (hx : p.tables.exec = Jvm.exec) (hb : c.code = cX8_digest) (hml : c.maxLocals = 5) (hown : s.vm.findClass RX8 = some m.cls) (hts : ∀ w ∈ wsX8_digest, w.before args s = true) (hA : ∀ q, s.heap.size ≤ q → A q) (hK : va_K (dC, dI) vwCl [(cA, .int)] s)
    (kk0 : ∀ (H : Heap) (locs : List Loc), va_P (dC, dI) vwCl [(a_t, .inr (7, [.int v_t_thrown_L105, .ref a_t_state, .ref a_t_kept, .ref a_t_stack, .int v_t_saved, .ref a_t_text, .int v_t_textLength, .int v_t_place, .int v_t_sign, .int v_t_readLetters, .int v_t_readLength, .int v_t_readNumber])), (a_t_state, .inl (cA, 255, .inl f_t_state))] H → va_D A [(a_t, .inr (7, [.int v_t_thrown_L105, .ref a_t_state, .ref a_t_kept, .ref a_t_stack, .int v_t_saved, .ref a_t_text, .int v_t_textLength, .int v_t_place, .int v_t_sign, .int v_t_readLetters, .int v_t_readLength, .int v_t_readNumber])), (a_t_state, .inl (cA, 255, .inl f_t_state))] → va_S A s.heap H locs → ∀ ls : Array Slot, lv_has ls 5 [(0, .ref a_t), (1, .long y1_105), (3, .int x3_105), (4, .int y4_105)] → W p l e (headSpec wsX8_digest rmX8_digest).room s m args below meth c H locs 0 0 Q (F0 m 133 ls [])) :
    ∀ (n : Nat) (x1_105 : Int64) (x4_105 : Int32), mX8_digest_L105 f_t_state x3_105 n x1_105 x4_105 = some (y1_105, y4_105) → ∀ (H : Heap) (locs : List Loc), va_P (dC, dI) vwCl [(a_t, .inr (7, [.int v_t_thrown_L105, .ref a_t_state, .ref a_t_kept, .ref a_t_stack, .int v_t_saved, .ref a_t_text, .int v_t_textLength, .int v_t_place, .int v_t_sign, .int v_t_readLetters, .int v_t_readLength, .int v_t_readNumber])), (a_t_state, .inl (cA, 255, .inl f_t_state))] H → va_D A [(a_t, .inr (7, [.int v_t_thrown_L105, .ref a_t_state, .ref a_t_kept, .ref a_t_stack, .int v_t_saved, .ref a_t_text, .int v_t_textLength, .int v_t_place, .int v_t_sign, .int v_t_readLetters, .int v_t_readLength, .int v_t_readNumber])), (a_t_state, .inl (cA, 255, .inl f_t_state))] → va_S A s.heap H locs → ∀ ls : Array Slot, lv_has ls 5 [(0, .ref a_t), (1, .long x1_105), (3, .int x3_105), (4, .int x4_105)] → W p l e (headSpec wsX8_digest rmX8_digest).room s m args below meth c H locs 0 0 Q (F0 m 105 ls []) := by
  intro n
  induction n with
  | zero =>
    intro x1_105 x4_105 hm
    cases hm
  | succ n ih =>
    intro x1_105 x4_105 hm H locs hP hD hS ls hl
    rw [mX8_digest_L105] at hm
    refine lv_iload hx hb dX8_digest_105 (lv_at hl 3 rfl) ?_
    refine lv_bipush (v := 8) hx hb dX8_digest_107 (by decide) ?_
    refine lv_icmp_gt (tgt := 133) hx hb dX8_digest_109 (by decide) (fun c109 => ?_) (fun c109 => ?_)
    · rw [if_pos c109] at hm
      cases hm
      exact kk0 _ _ (hP.sub [0, 1] rfl) (hD.sub [0, 1] (by decide) rfl) hS _ (lv_sub hl [0, 1, 2, 3] rfl)
    · rw [if_neg c109] at hm
      refine lv_ldc2 (v := (31 : Int64)) hx hb hown (hts _ (List.mem_of_getElem? (i := 4) rfl)) dX8_digest_112 ?_
      refine lv_lload_n hx hb dX8_digest_115 rfl (lv_at hl 1 rfl) ?_
      refine lv_lmul hx hb dX8_digest_116 ?_
      refine lv_aload_n hx hb dX8_digest_117 rfl (lv_at hl 0 rfl) ?_
      refine lv_iload_n hx hb dX8_digest_118 rfl (lv_at hl 2 rfl) ?_
      refine lv_iload hx hb dX8_digest_119 (lv_at hl 3 rfl) ?_
      obtain ⟨r121, e121, hm⟩ := bs hm
      try dsimp only at hm
      refine ro_callVe ⟨hx, hb, hml, hown, hts⟩ (kX8_houseValue l dC dI cA a_t a_t_state a_t_kept a_t_stack a_t_text v_t_thrown_L105 v_t_saved v_t_textLength v_t_place v_t_sign v_t_readLetters v_t_readLength v_t_readNumber f_t_state x3_105 x4_105 r121 e121) (cwV 2 hts gX8_digest_X8_houseValue rfl rfl rfl hdX8_houseValue ⟨Nat.le_of_ble_eq_true rfl, Nat.le_of_ble_eq_true rfl⟩) (hP.sub [0, 1] rfl) hK rfl rfl rfl hl.1 rfl (Nat.le_of_ble_eq_true rfl) dX8_digest_121 ⟨Nat.zero_le _, Nat.zero_le _⟩ ?_
      refine lv_i2l hx hb dX8_digest_124 rfl ?_
      refine lv_ladd hx hb dX8_digest_125 ?_
      refine lv_lstore_n (lv' := [(1, .long (((31 : Int64) * x1_105) + (r121).toInt64)), (0, .ref a_t), (3, .int x3_105), (4, .int x4_105)]) hx hb dX8_digest_126 rfl hl (by decide) rfl (fun ls hl => ?_)
      refine lv_iinc (v := (x4_105 + 1)) (lv' := [(4, .int (x4_105 + 1)), (1, .long (((31 : Int64) * x1_105) + (r121).toInt64)), (0, .ref a_t), (3, .int x3_105)]) hx hb dX8_digest_127 hl (k := 3) rfl rfl (by decide) rfl (fun ls hl => ?_)
      refine lv_goto (tgt := 105) hx hb dX8_digest_130 (by decide) ?_
      exact ih _ _ hm _ _ (hP.sub [0, 1] rfl) (hD.sub [0, 1] (by decide) rfl) hS _ (lv_sub hl [2, 1, 3, 0] rfl)
set_option maxHeartbeats 4000000 in
set_option maxRecDepth 100000 in
theorem wX8_digest_L92 {p : Program} {l : Launch} {e : Env} {s : State} {m : MethodId} {args : Array Value} {below : List Frame} {meth : Method} {c : Code} {Q : State → Prop} {A : Nat → Prop} (dC : Nat → ClassId) (dI : Nat → Nat → Nat) (cA : ClassId) (a_t a_t_state a_t_kept a_t_stack a_t_text : Nat) (v_t_saved v_t_textLength v_t_place v_t_sign v_t_readLetters v_t_readLength v_t_readNumber : Int32) (f_t_state : Nat → Int32) (v_t_thrown_L92 : Int32) (y1_92 : Int64) (y3_92 : Int32) (hx : p.tables.exec = Jvm.exec) (hb : c.code = cX8_digest) (hml : c.maxLocals = 5) (hown : s.vm.findClass RX8 = some m.cls) (hts : ∀ w ∈ wsX8_digest, w.before args s = true) (hA : ∀ q, s.heap.size ≤ q → A q) (hK : va_K (dC, dI) vwCl [(cA, .int)] s)
    (kk0 : ∀ (H : Heap) (locs : List Loc), va_P (dC, dI) vwCl [(a_t, .inr (7, [.int v_t_thrown_L92, .ref a_t_state, .ref a_t_kept, .ref a_t_stack, .int v_t_saved, .ref a_t_text, .int v_t_textLength, .int v_t_place, .int v_t_sign, .int v_t_readLetters, .int v_t_readLength, .int v_t_readNumber])), (a_t_state, .inl (cA, 255, .inl f_t_state))] H → va_D A [(a_t, .inr (7, [.int v_t_thrown_L92, .ref a_t_state, .ref a_t_kept, .ref a_t_stack, .int v_t_saved, .ref a_t_text, .int v_t_textLength, .int v_t_place, .int v_t_sign, .int v_t_readLetters, .int v_t_readLength, .int v_t_readNumber])), (a_t_state, .inl (cA, 255, .inl f_t_state))] → va_S A s.heap H locs → ∀ ls : Array Slot, lv_has ls 5 [(0, .ref a_t), (1, .long y1_92), (3, .int y3_92)] → W p l e (headSpec wsX8_digest rmX8_digest).room s m args below meth c H locs 0 0 Q (F0 m 152 ls [])) :
    ∀ (n : Nat) (x1_92 : Int64) (x3_92 : Int32), mX8_digest_L92 f_t_state n x1_92 x3_92 = some (y1_92, y3_92) → ∀ (H : Heap) (locs : List Loc), va_P (dC, dI) vwCl [(a_t, .inr (7, [.int v_t_thrown_L92, .ref a_t_state, .ref a_t_kept, .ref a_t_stack, .int v_t_saved, .ref a_t_text, .int v_t_textLength, .int v_t_place, .int v_t_sign, .int v_t_readLetters, .int v_t_readLength, .int v_t_readNumber])), (a_t_state, .inl (cA, 255, .inl f_t_state))] H → va_D A [(a_t, .inr (7, [.int v_t_thrown_L92, .ref a_t_state, .ref a_t_kept, .ref a_t_stack, .int v_t_saved, .ref a_t_text, .int v_t_textLength, .int v_t_place, .int v_t_sign, .int v_t_readLetters, .int v_t_readLength, .int v_t_readNumber])), (a_t_state, .inl (cA, 255, .inl f_t_state))] → va_S A s.heap H locs → ∀ ls : Array Slot, lv_has ls 5 [(0, .ref a_t), (1, .long x1_92), (3, .int x3_92)] → W p l e (headSpec wsX8_digest rmX8_digest).room s m args below meth c H locs 0 0 Q (F0 m 92 ls []) := by
  intro n
  induction n with
  | zero =>
    intro x1_92 x3_92 hm
    cases hm
  | succ n ih =>
    intro x1_92 x3_92 hm H locs hP hD hS ls hl
    rw [mX8_digest_L92] at hm
    refine lv_iload_n hx hb dX8_digest_92 rfl (lv_at hl 2 rfl) ?_
    refine lv_aload_n hx hb dX8_digest_93 rfl (lv_at hl 0 rfl) ?_
    refine va_get (D := (dC, dI)) (ci := 7) (C := RX8) (T := TX8) (N := 12) hx hb hts iX8_digest_X8 hown hK hP 0 rfl rfl 1 (by decide) (hts _ (List.mem_of_getElem? (i := 5) rfl)) (fun _ h9 => h9) rfl dX8_digest_94 ?_
    refine lv_iconst (v := 2) hx hb dX8_digest_97 (by decide) ?_
    refine xa_ldK hx hb hK hP 1 0 rfl rfl 2 rfl (by decide) (by decide) dX8_digest_98 ?_
    refine lv_icmp_ge (tgt := 152) hx hb dX8_digest_99 (by decide) (fun c99 => ?_) (fun c99 => ?_)
    · rw [if_pos c99] at hm
      cases hm
      exact kk0 _ _ (hP.sub [0, 1] rfl) (hD.sub [0, 1] (by decide) rfl) hS _ (lv_sub hl [0, 1, 2] rfl)
    · rw [if_neg c99] at hm
      refine lv_iconst (v := 0) hx hb dX8_digest_102 (by decide) ?_
      refine lv_istore (lv' := [(4, .int 0), (0, .ref a_t), (1, .long x1_92), (3, .int x3_92)]) hx hb dX8_digest_103 hl (by decide) rfl (fun ls hl => ?_)
      obtain ⟨⟨y1_105, y4_105⟩, e105, hm⟩ := bs hm
      try dsimp only at hm
      refine wX8_digest_L105 dC dI cA a_t a_t_state a_t_kept a_t_stack a_t_text v_t_saved v_t_textLength v_t_place v_t_sign v_t_readLetters v_t_readLength v_t_readNumber f_t_state x3_92 v_t_thrown_L92 y1_105 y4_105 hx hb hml hown hts hA hK ?_ FU _ _ e105 _ _ (hP.sub [0, 1] rfl) (hD.sub [0, 1] (by decide) rfl) hS _ (lv_sub hl [1, 2, 3, 0] rfl)
      · intro H locs hP hD hS ls hl
        refine lv_ldc2 (v := (31 : Int64)) hx hb hown (hts _ (List.mem_of_getElem? (i := 4) rfl)) dX8_digest_133 ?_
        refine lv_lload_n hx hb dX8_digest_136 rfl (lv_at hl 1 rfl) ?_
        refine lv_lmul hx hb dX8_digest_137 ?_
        refine lv_aload_n hx hb dX8_digest_138 rfl (lv_at hl 0 rfl) ?_
        refine lv_iload_n hx hb dX8_digest_139 rfl (lv_at hl 2 rfl) ?_
        obtain ⟨r140, e140, hm⟩ := bs hm
        try dsimp only at hm
        refine ro_callVe ⟨hx, hb, hml, hown, hts⟩ (kX8_saves l dC dI cA a_t a_t_state a_t_kept a_t_stack a_t_text v_t_thrown_L92 v_t_saved v_t_textLength v_t_place v_t_sign v_t_readLetters v_t_readLength v_t_readNumber f_t_state x3_92 r140 e140) (cwV 1 hts gX8_digest_X8_saves rfl rfl rfl hdX8_saves ⟨Nat.le_of_ble_eq_true rfl, Nat.le_of_ble_eq_true rfl⟩) (hP.sub [0, 1] rfl) hK rfl rfl rfl hl.1 rfl (Nat.le_of_ble_eq_true rfl) dX8_digest_140 ⟨Nat.zero_le _, Nat.zero_le _⟩ ?_
        refine lv_i2l hx hb dX8_digest_143 rfl ?_
        refine lv_ladd hx hb dX8_digest_144 ?_
        refine lv_lstore_n (lv' := [(1, .long (((31 : Int64) * y1_105) + (r140).toInt64)), (0, .ref a_t), (3, .int x3_92), (4, .int y4_105)]) hx hb dX8_digest_145 rfl hl (by decide) rfl (fun ls hl => ?_)
        refine lv_iinc (v := (x3_92 + 1)) (lv' := [(3, .int (x3_92 + 1)), (1, .long (((31 : Int64) * y1_105) + (r140).toInt64)), (0, .ref a_t), (4, .int y4_105)]) hx hb dX8_digest_146 hl (k := 2) rfl rfl (by decide) rfl (fun ls hl => ?_)
        refine lv_goto (tgt := 92) hx hb dX8_digest_149 (by decide) ?_
        exact ih _ _ hm _ _ (hP.sub [0, 1] rfl) (hD.sub [0, 1] (by decide) rfl) hS _ (lv_sub hl [2, 1, 0] rfl)
set_option maxHeartbeats 4000000 in
set_option maxRecDepth 100000 in
theorem kX8_digest (l : Launch) (dC : Nat → ClassId) (dI : Nat → Nat → Nat) (cA : ClassId) (a_t a_t_state a_t_kept a_t_stack a_t_text : Nat) (v_t_thrown v_t_saved v_t_textLength v_t_place v_t_sign v_t_readLetters v_t_readLength v_t_readNumber : Int32) (f_t_state : Nat → Int32) (sz : Nat) (r : Int64) (o_v_t_thrown : Int32) (hm : (mX8_digest v_t_saved v_t_textLength f_t_state) = some (r, o_v_t_thrown)) : Met l yX8_digest wsX8_digest rmX8_digest (mpc (dC, dI) [(cA, .int)] (wX8_digest cA a_t a_t_state a_t_kept a_t_stack a_t_text v_t_thrown v_t_saved v_t_textLength v_t_place v_t_sign v_t_readLetters v_t_readLength v_t_readNumber f_t_state) [.ref a_t] sz) (mql (dC, dI) [(cA, .int)] (va_A (wX8_digest cA a_t a_t_state a_t_kept a_t_stack a_t_text v_t_thrown v_t_saved v_t_textLength v_t_place v_t_sign v_t_readLetters v_t_readLength v_t_readNumber f_t_state) sz) (wX8_digest cA a_t a_t_state a_t_kept a_t_stack a_t_text o_v_t_thrown v_t_saved v_t_textLength v_t_place v_t_sign v_t_readLetters v_t_readLength v_t_readNumber f_t_state) (fun x => x = r)) 0 0 (va_A (wX8_digest cA a_t a_t_state a_t_kept a_t_stack a_t_text v_t_thrown v_t_saved v_t_textLength v_t_place v_t_sign v_t_readLetters v_t_readLength v_t_readNumber f_t_state) sz) := by
  unfold mX8_digest at hm
  refine mu_ofW (Qc := fun A => mql (dC, dI) [(cA, .int)] A (wX8_digest cA a_t a_t_state a_t_kept a_t_stack a_t_text o_v_t_thrown v_t_saved v_t_textLength v_t_place v_t_sign v_t_readLetters v_t_readLength v_t_readNumber f_t_state) (fun x => x = r)) (cc := cX8_digest) (maxL := 5) (ret := (some .long)) (own := RX8) (by decide) rfl rfl (Nat.le_of_ble_eq_true rfl) ?_
  intro p e s m args below meth c hx hb hr hts hown hlocks hml hin A hA hP hD hS hK ls hl
  have hl : lv_has ls 5 [(0, .ref a_t)] := hl
  have hP : va_P (dC, dI) vwCl [(a_t, .inr (7, [.int v_t_thrown, .ref a_t_state, .ref a_t_kept, .ref a_t_stack, .int v_t_saved, .ref a_t_text, .int v_t_textLength, .int v_t_place, .int v_t_sign, .int v_t_readLetters, .int v_t_readLength, .int v_t_readNumber])), (a_t_state, .inl (cA, 255, .inl f_t_state))] s.heap := hP
  have hD : va_D A [(a_t, .inr (7, [.int v_t_thrown, .ref a_t_state, .ref a_t_kept, .ref a_t_stack, .int v_t_saved, .ref a_t_text, .int v_t_textLength, .int v_t_place, .int v_t_sign, .int v_t_readLetters, .int v_t_readLength, .int v_t_readNumber])), (a_t_state, .inl (cA, 255, .inl f_t_state))] := hD
  refine lv_aload_n hx hb dX8_digest_0 rfl (lv_at hl 0 rfl) ?_
  refine lv_iconst (v := 0) hx hb dX8_digest_1 (by decide) ?_
  refine va_put (D := (dC, dI)) (ci := 7) (C := RX8) (T := TX8) (N := 12) (ty := .int) hx hb hts iX8_digest_X8 tyX8 tyX8_ok nmX8 hown hK hP hD hS 0 rfl rfl 0 (by decide) (hts _ (List.mem_of_getElem? (i := 1) rfl)) (fun _ h9 => h9) rfl (by decide +kernel) rfl rfl (Nat.le_of_ble_eq_true rfl) dX8_digest_2 (fun H locs hP hD hS => ?_)
  have hP : va_P (dC, dI) vwCl [(a_t, .inr (7, [.int 0, .ref a_t_state, .ref a_t_kept, .ref a_t_stack, .int v_t_saved, .ref a_t_text, .int v_t_textLength, .int v_t_place, .int v_t_sign, .int v_t_readLetters, .int v_t_readLength, .int v_t_readNumber])), (a_t_state, .inl (cA, 255, .inl f_t_state))] H := hP
  have hD : va_D A [(a_t, .inr (7, [.int 0, .ref a_t_state, .ref a_t_kept, .ref a_t_stack, .int v_t_saved, .ref a_t_text, .int v_t_textLength, .int v_t_place, .int v_t_sign, .int v_t_readLetters, .int v_t_readLength, .int v_t_readNumber])), (a_t_state, .inl (cA, 255, .inl f_t_state))] := hD
  refine lv_ldc2 (v := (1348624 : Int64)) hx hb hown (hts _ (List.mem_of_getElem? (i := 2) rfl)) dX8_digest_5 ?_
  refine lv_aload_n hx hb dX8_digest_8 rfl (lv_at hl 0 rfl) ?_
  refine va_get (D := (dC, dI)) (ci := 7) (C := RX8) (T := TX8) (N := 12) hx hb hts iX8_digest_X8 hown hK hP 0 rfl rfl 4 (by decide) (hts _ (List.mem_of_getElem? (i := 3) rfl)) (fun _ h9 => h9) rfl dX8_digest_9 ?_
  refine lv_i2l hx hb dX8_digest_12 rfl ?_
  refine lv_ladd hx hb dX8_digest_13 ?_
  refine lv_lstore_n (lv' := [(1, .long ((1348624 : Int64) + (v_t_saved).toInt64)), (0, .ref a_t)]) hx hb dX8_digest_14 rfl hl (by decide) rfl (fun ls hl => ?_)
  refine lv_iconst (v := 0) hx hb dX8_digest_15 (by decide) ?_
  refine lv_istore_n (lv' := [(3, .int 0), (1, .long ((1348624 : Int64) + (v_t_saved).toInt64)), (0, .ref a_t)]) hx hb dX8_digest_16 rfl hl (by decide) rfl (fun ls hl => ?_)
  obtain ⟨⟨y1_17, y3_17⟩, e17, hm⟩ := bs hm
  try dsimp only at hm
  refine wX8_digest_L17 dC dI cA a_t a_t_state a_t_kept a_t_stack a_t_text v_t_saved v_t_textLength v_t_place v_t_sign v_t_readLetters v_t_readLength v_t_readNumber f_t_state 0 y1_17 y3_17 hx hb hml hown hts hA hK ?_ FU _ _ e17 _ _ (hP.sub [0, 1] rfl) (hD.sub [0, 1] (by decide) rfl) hS _ (lv_sub hl [2, 1, 0] rfl)
  · intro H locs hP hD hS ls hl
    refine lv_iconst (v := 0) hx hb dX8_digest_42 (by decide) ?_
    refine lv_istore_n (lv' := [(3, .int 0), (0, .ref a_t), (1, .long y1_17)]) hx hb dX8_digest_43 rfl hl (by decide) rfl (fun ls hl => ?_)
    obtain ⟨⟨y1_44, y3_44⟩, e44, hm⟩ := bs hm
    try dsimp only at hm
    refine wX8_digest_L44 dC dI cA a_t a_t_state a_t_kept a_t_stack a_t_text v_t_saved v_t_textLength v_t_place v_t_sign v_t_readLetters v_t_readLength v_t_readNumber f_t_state 0 y1_44 y3_44 hx hb hml hown hts hA hK ?_ FU _ _ e44 _ _ (hP.sub [0, 1] rfl) (hD.sub [0, 1] (by decide) rfl) hS _ (lv_sub hl [1, 2, 0] rfl)
    · intro H locs hP hD hS ls hl
      refine lv_iconst (v := 0) hx hb dX8_digest_90 (by decide) ?_
      refine lv_istore_n (lv' := [(3, .int 0), (0, .ref a_t), (1, .long y1_44)]) hx hb dX8_digest_91 rfl hl (by decide) rfl (fun ls hl => ?_)
      obtain ⟨⟨y1_92, y3_92⟩, e92, hm⟩ := bs hm
      try dsimp only at hm
      refine wX8_digest_L92 dC dI cA a_t a_t_state a_t_kept a_t_stack a_t_text v_t_saved v_t_textLength v_t_place v_t_sign v_t_readLetters v_t_readLength v_t_readNumber f_t_state 0 y1_92 y3_92 hx hb hml hown hts hA hK ?_ FU _ _ e92 _ _ (hP.sub [0, 1] rfl) (hD.sub [0, 1] (by decide) rfl) hS _ (lv_sub hl [1, 2, 0] rfl)
      · intro H locs hP hD hS ls hl
        refine lv_ldc2 (v := (31 : Int64)) hx hb hown (hts _ (List.mem_of_getElem? (i := 4) rfl)) dX8_digest_152 ?_
        refine lv_lload_n hx hb dX8_digest_155 rfl (lv_at hl 1 rfl) ?_
        refine lv_lmul hx hb dX8_digest_156 ?_
        refine lv_aload_n hx hb dX8_digest_157 rfl (lv_at hl 0 rfl) ?_
        obtain ⟨r158, e158, hm⟩ := bs hm
        try dsimp only at hm
        refine ro_callVe ⟨hx, hb, hml, hown, hts⟩ (kX8_tourOf l dC dI cA a_t a_t_state a_t_kept a_t_stack a_t_text 0 v_t_saved v_t_textLength v_t_place v_t_sign v_t_readLetters v_t_readLength v_t_readNumber f_t_state r158 e158) (cwV 0 hts gX8_digest_X8_tourOf rfl rfl rfl hdX8_tourOf ⟨Nat.le_of_ble_eq_true rfl, Nat.le_of_ble_eq_true rfl⟩) (hP.sub [0, 1] rfl) hK rfl rfl rfl hl.1 rfl (Nat.le_of_ble_eq_true rfl) dX8_digest_158 ⟨Nat.zero_le _, Nat.zero_le _⟩ ?_
        refine lv_i2l hx hb dX8_digest_161 rfl ?_
        refine lv_ladd hx hb dX8_digest_162 ?_
        refine lv_lstore_n (lv' := [(1, .long (((31 : Int64) * y1_92) + (r158).toInt64)), (0, .ref a_t), (3, .int y3_92)]) hx hb dX8_digest_163 rfl hl (by decide) rfl (fun ls hl => ?_)
        refine lv_ldc2 (v := (31 : Int64)) hx hb hown (hts _ (List.mem_of_getElem? (i := 4) rfl)) dX8_digest_164 ?_
        refine lv_lload_n hx hb dX8_digest_167 rfl (lv_at hl 0 rfl) ?_
        refine lv_lmul hx hb dX8_digest_168 ?_
        refine lv_aload_n hx hb dX8_digest_169 rfl (lv_at hl 1 rfl) ?_
        obtain ⟨r170, e170, hm⟩ := bs hm
        try dsimp only at hm
        refine ro_callVe ⟨hx, hb, hml, hown, hts⟩ (kX8_bestOf l dC dI cA a_t a_t_state a_t_kept a_t_stack a_t_text 0 v_t_saved v_t_textLength v_t_place v_t_sign v_t_readLetters v_t_readLength v_t_readNumber f_t_state r170 e170) (cwV 0 hts gX8_digest_X8_bestOf rfl rfl rfl hdX8_bestOf ⟨Nat.le_of_ble_eq_true rfl, Nat.le_of_ble_eq_true rfl⟩) (hP.sub [0, 1] rfl) hK rfl rfl rfl hl.1 rfl (Nat.le_of_ble_eq_true rfl) dX8_digest_170 ⟨Nat.zero_le _, Nat.zero_le _⟩ ?_
        refine lv_i2l hx hb dX8_digest_173 rfl ?_
        refine lv_ladd hx hb dX8_digest_174 ?_
        cases hm
        exact mu_lret hx hb hr rfl hP hD hS hK [0, 1] rfl (by decide) dX8_digest_175 hlocks
