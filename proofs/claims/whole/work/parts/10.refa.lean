def mX8_thrown (v_t_thrown : Int32) : Int32 :=
  v_t_thrown
abbrev rmX8_thrown : Room := { frames := 0, cells := 0, slots := 0, locals := 0 }
abbrev wX8_thrown (cA : ClassId) (a_t a_t_state a_t_kept a_t_stack a_t_text : Nat) (v_t_thrown v_t_saved v_t_textLength v_t_place v_t_sign v_t_readLetters v_t_readLength v_t_readNumber : Int32) : va_W := [(a_t, .inr (7, [.int v_t_thrown, .ref a_t_state, .ref a_t_kept, .ref a_t_stack, .int v_t_saved, .ref a_t_text, .int v_t_textLength, .int v_t_place, .int v_t_sign, .int v_t_readLetters, .int v_t_readLength, .int v_t_readNumber]))]
theorem iX8_thrown_X8 : ∀ w ∈ wsX80, w ∈ wsX8_thrown := (fun _ h => List.mem_cons_of_mem _ (List.mem_append_right _ h))
theorem hdX8_thrown : yX8_thrown.cls = RX8 ∧ yX8_thrown.cls ≠ "java/lang/invoke/MethodHandle" ∧ yX8_thrown.cls ≠ "java/lang/invoke/VarHandle" ∧ (parseMethodDescriptor yX8_thrown.desc).map (fun d => d.parameters.length) = some 0 := by decide +kernel
set_option maxHeartbeats 4000000 in
set_option maxRecDepth 100000 in
theorem kX8_thrown (l : Launch) (dC : Nat → ClassId) (dI : Nat → Nat → Nat) (cA : ClassId) (a_t a_t_state a_t_kept a_t_stack a_t_text : Nat) (v_t_thrown v_t_saved v_t_textLength v_t_place v_t_sign v_t_readLetters v_t_readLength v_t_readNumber : Int32) : Met l yX8_thrown wsX8_thrown rmX8_thrown (rpc (dC, dI) [(cA, .int)] (wX8_thrown cA a_t a_t_state a_t_kept a_t_stack a_t_text v_t_thrown v_t_saved v_t_textLength v_t_place v_t_sign v_t_readLetters v_t_readLength v_t_readNumber) [.ref a_t]) (vp_Si (fun x => x = (mX8_thrown v_t_thrown))) 0 0 (fun _ => False) := by
  obtain ⟨r, hm⟩ : ∃ r, mX8_thrown v_t_thrown = r := ⟨_, rfl⟩
  rw [hm]
  unfold mX8_thrown at hm
  refine ro_ofW (cc := cX8_thrown) (maxL := 1) (ret := (some .int)) (own := RX8) (by decide) rfl rfl (Nat.le_of_ble_eq_true rfl) ?_
  intro p e s m args below meth c hx hb hr hts hown hlocks hml hP hK ls hl
  have hl : lv_has ls 1 [(0, .ref a_t)] := hl
  have hP : va_P (dC, dI) vwCl [(a_t, .inr (7, [.int v_t_thrown, .ref a_t_state, .ref a_t_kept, .ref a_t_stack, .int v_t_saved, .ref a_t_text, .int v_t_textLength, .int v_t_place, .int v_t_sign, .int v_t_readLetters, .int v_t_readLength, .int v_t_readNumber]))] s.heap := hP
  refine lv_aload_n hx hb dX8_thrown_0 rfl (lv_at hl 0 rfl) ?_
  refine va_get (D := (dC, dI)) (ci := 7) (C := RX8) (T := TX8) (N := 12) hx hb hts iX8_thrown_X8 hown hK hP 0 rfl rfl 0 (by decide) (hts _ (List.mem_of_getElem? (i := 1) rfl)) (fun _ h9 => h9) rfl dX8_thrown_1 ?_
  subst hm
  exact ro_iret hx hb hr rfl rfl dX8_thrown_4 hlocks
def mX8_copy_L3 (n_p0 : Nat) (f_p0 : Nat → Int32) (x1_3 : Int32) (n_p2 : Nat) (x3_3 : Int32) : Nat → (Int32) → (Nat → Int32) → Option (Int32 × (Nat → Int32))
  | 0, _, _ => none
  | n + 1, x4_3, f_p2_L3 =>
    (if 255 ≤ x4_3 then
      some (x4_3, f_p2_L3)
    else
      ((rdA n_p0 f_p0 (x1_3 + x4_3)).bind fun r21 =>
      ((wrA n_p2 f_p2_L3 (x3_3 + x4_3) r21).bind fun f_p2_22 =>
      mX8_copy_L3 n_p0 f_p0 x1_3 n_p2 x3_3 n (x4_3 + 1) f_p2_22)))
def mX8_copy (n_p0 : Nat) (n_p2 : Nat) (f_p0 : Nat → Int32) (f_p2 : Nat → Int32) (p1 : Int32) (p3 : Int32) : Option ((Nat → Int32)) :=
  ((mX8_copy_L3 n_p0 f_p0 p1 n_p2 p3 FU 0 f_p2).bind fun (y4_3, f_p2_E3) =>
  some f_p2_E3)
abbrev rmX8_copy : Room := { frames := 0, cells := 0, slots := 0, locals := 0 }
abbrev wX8_copy (cA : ClassId) (a_p0 a_p2 n_p0 n_p2 : Nat) (f_p0 f_p2 : Nat → Int32) : va_W := [(a_p0, .inl (cA, n_p0, .inl f_p0)), (a_p2, .inl (cA, n_p2, .inl f_p2))]
theorem hdX8_copy : yX8_copy.cls = RX8 ∧ yX8_copy.cls ≠ "java/lang/invoke/MethodHandle" ∧ yX8_copy.cls ≠ "java/lang/invoke/VarHandle" ∧ (parseMethodDescriptor yX8_copy.desc).map (fun d => d.parameters.length) = some 4 := by decide +kernel
set_option maxHeartbeats 4000000 in
set_option maxRecDepth 100000 in
theorem wX8_copy_L3 {p : Program} {l : Launch} {e : Env} {s : State} {m : MethodId} {args : Array Value} {below : List Frame} {meth : Method} {c : Code} {Q : State → Prop} {A : Nat → Prop} (dC : Nat → ClassId) (dI : Nat → Nat → Nat) (cA : ClassId) (a_p0 a_p2 n_p0 n_p2 : Nat) (hn_p0 : n_p0 < 2 ^ 31) (hn_p2 : n_p2 < 2 ^ 31) (f_p0 : Nat → Int32) (p1 p3 x1_3 x3_3 y4_3 : Int32) (f_p2_E3 : Nat → Int32) (hx : p.tables.exec = Jvm.exec) (hb : c.code = cX8_copy) (hml : c.maxLocals = 5) (hown : s.vm.findClass RX8 = some m.cls) (hts : ∀ w ∈ wsX8_copy, w.before args s = true) (hA : ∀ q, s.heap.size ≤ q → A q) (hK : va_K (dC, dI) vwCl [(cA, .int)] s)
    (kk0 : ∀ (H : Heap) (locs : List Loc), va_P (dC, dI) vwCl [(a_p0, .inl (cA, n_p0, .inl f_p0)), (a_p2, .inl (cA, n_p2, .inl f_p2_E3))] H → va_D A [(a_p0, .inl (cA, n_p0, .inl f_p0)), (a_p2, .inl (cA, n_p2, .inl f_p2_E3))] → va_S A s.heap H locs → ∀ ls : Array Slot, lv_has ls 5 [(0, .ref a_p0), (1, .int x1_3), (2, .ref a_p2), (3, .int x3_3), (4, .int y4_3)] → W p l e (headSpec wsX8_copy rmX8_copy).room s m args below meth c H locs 0 0 Q (F0 m 29 ls [])) :
    ∀ (n : Nat) (x4_3 : Int32) (f_p2_L3 : Nat → Int32), mX8_copy_L3 n_p0 f_p0 x1_3 n_p2 x3_3 n x4_3 f_p2_L3 = some (y4_3, f_p2_E3) → ∀ (H : Heap) (locs : List Loc), va_P (dC, dI) vwCl [(a_p0, .inl (cA, n_p0, .inl f_p0)), (a_p2, .inl (cA, n_p2, .inl f_p2_L3))] H → va_D A [(a_p0, .inl (cA, n_p0, .inl f_p0)), (a_p2, .inl (cA, n_p2, .inl f_p2_L3))] → va_S A s.heap H locs → ∀ ls : Array Slot, lv_has ls 5 [(0, .ref a_p0), (1, .int x1_3), (2, .ref a_p2), (3, .int x3_3), (4, .int x4_3)] → W p l e (headSpec wsX8_copy rmX8_copy).room s m args below meth c H locs 0 0 Q (F0 m 3 ls []) := by
  intro n
  induction n with
  | zero =>
    intro x4_3 f_p2_L3 hm
    cases hm
  | succ n ih =>
    intro x4_3 f_p2_L3 hm H locs hP hD hS ls hl
    rw [mX8_copy_L3] at hm
    refine lv_iload hx hb dX8_copy_3 (lv_at hl 4 rfl) ?_
    refine lv_sipush (v := 255) hx hb dX8_copy_5 (by decide) ?_
    refine lv_icmp_ge (tgt := 29) hx hb dX8_copy_8 (by decide) (fun c8 => ?_) (fun c8 => ?_)
    · rw [if_pos c8] at hm
      cases hm
      exact kk0 _ _ (hP.sub [0, 1] rfl) (hD.sub [0, 1] (by decide) rfl) hS _ (lv_sub hl [0, 1, 2, 3, 4] rfl)
    · rw [if_neg c8] at hm
      refine lv_aload_n hx hb dX8_copy_11 rfl (lv_at hl 2 rfl) ?_
      refine lv_iload_n hx hb dX8_copy_12 rfl (lv_at hl 3 rfl) ?_
      refine lv_iload hx hb dX8_copy_13 (lv_at hl 4 rfl) ?_
      refine lv_iadd hx hb dX8_copy_15 ?_
      refine lv_aload_n hx hb dX8_copy_16 rfl (lv_at hl 0 rfl) ?_
      refine lv_iload_n hx hb dX8_copy_17 rfl (lv_at hl 1 rfl) ?_
      refine lv_iload hx hb dX8_copy_18 (lv_at hl 4 rfl) ?_
      refine lv_iadd hx hb dX8_copy_20 ?_
      obtain ⟨r21, e21, hm⟩ := bs hm
      try dsimp only at hm
      refine xa_ldO hx hb hK hP 0 0 rfl rfl e21 dX8_copy_21 ?_
      obtain ⟨f_p2_22, e22, hm⟩ := bs hm
      try dsimp only at hm
      refine xa_stO hx hb hK hP hD hS 1 0 rfl rfl e22 dX8_copy_22 (fun H locs hP hD hS => ?_)
      have hP : va_P (dC, dI) vwCl [(a_p0, .inl (cA, n_p0, .inl f_p0)), (a_p2, .inl (cA, n_p2, .inl f_p2_22))] H := hP
      have hD : va_D A [(a_p0, .inl (cA, n_p0, .inl f_p0)), (a_p2, .inl (cA, n_p2, .inl f_p2_22))] := hD
      refine lv_iinc (v := (x4_3 + 1)) (lv' := [(4, .int (x4_3 + 1)), (0, .ref a_p0), (1, .int x1_3), (2, .ref a_p2), (3, .int x3_3)]) hx hb dX8_copy_23 hl (k := 4) rfl rfl (by decide) rfl (fun ls hl => ?_)
      refine lv_goto (tgt := 3) hx hb dX8_copy_26 (by decide) ?_
      exact ih _ _ hm _ _ (hP.sub [0, 1] rfl) (hD.sub [0, 1] (by decide) rfl) hS _ (lv_sub hl [1, 2, 3, 4, 0] rfl)
set_option maxHeartbeats 4000000 in
set_option maxRecDepth 100000 in
theorem kX8_copy (l : Launch) (dC : Nat → ClassId) (dI : Nat → Nat → Nat) (cA : ClassId) (a_p0 a_p2 n_p0 n_p2 : Nat) (hn_p0 : n_p0 < 2 ^ 31) (hn_p2 : n_p2 < 2 ^ 31) (f_p0 f_p2 : Nat → Int32) (p1 p3 : Int32) (sz : Nat) (o_f_p2 : Nat → Int32) (hm : (mX8_copy n_p0 n_p2 f_p0 f_p2 p1 p3) = some o_f_p2) : Met l yX8_copy wsX8_copy rmX8_copy (mpc (dC, dI) [(cA, .int)] (wX8_copy cA a_p0 a_p2 n_p0 n_p2 f_p0 f_p2) [.ref a_p0, .int p1, .ref a_p2, .int p3] sz) (mqv (dC, dI) [(cA, .int)] (va_A (wX8_copy cA a_p0 a_p2 n_p0 n_p2 f_p0 f_p2) sz) (wX8_copy cA a_p0 a_p2 n_p0 n_p2 f_p0 o_f_p2)) 0 0 (va_A (wX8_copy cA a_p0 a_p2 n_p0 n_p2 f_p0 f_p2) sz) := by
  unfold mX8_copy at hm
  refine mu_ofW (Qc := fun A => mqv (dC, dI) [(cA, .int)] A (wX8_copy cA a_p0 a_p2 n_p0 n_p2 f_p0 o_f_p2)) (cc := cX8_copy) (maxL := 5) (ret := none) (own := RX8) (by decide) rfl rfl (Nat.le_of_ble_eq_true rfl) ?_
  intro p e s m args below meth c hx hb hr hts hown hlocks hml hin A hA hP hD hS hK ls hl
  have hl : lv_has ls 5 [(0, .ref a_p0), (1, .int p1), (2, .ref a_p2), (3, .int p3)] := hl
  have hP : va_P (dC, dI) vwCl [(a_p0, .inl (cA, n_p0, .inl f_p0)), (a_p2, .inl (cA, n_p2, .inl f_p2))] s.heap := hP
  have hD : va_D A [(a_p0, .inl (cA, n_p0, .inl f_p0)), (a_p2, .inl (cA, n_p2, .inl f_p2))] := hD
  refine lv_iconst (v := 0) hx hb dX8_copy_0 (by decide) ?_
  refine lv_istore (lv' := [(4, .int 0), (0, .ref a_p0), (1, .int p1), (2, .ref a_p2), (3, .int p3)]) hx hb dX8_copy_1 hl (by decide) rfl (fun ls hl => ?_)
  obtain ⟨⟨y4_3, f_p2_E3⟩, e3, hm⟩ := bs hm
  try dsimp only at hm
  refine wX8_copy_L3 dC dI cA a_p0 a_p2 n_p0 n_p2 hn_p0 hn_p2 f_p0 p1 p3 p1 p3 y4_3 f_p2_E3 hx hb hml hown hts hA hK ?_ FU _ _ e3 _ _ (hP.sub [0, 1] rfl) (hD.sub [0, 1] (by decide) rfl) hS _ (lv_sub hl [1, 2, 3, 4, 0] rfl)
  · intro H locs hP hD hS ls hl
    cases hm
    exact mu_vret hx hb hr hP hD hS hK [0, 1] rfl (by decide) dX8_copy_29 hlocks
def mX8_within (p0 : Int32) (p1 : Int32) (p2 : Int32) : Int32 :=
  (if p0 < p1 then 0 else (if p2 < p0 then (0 : Int32) else 1))
abbrev rmX8_within : Room := { frames := 0, cells := 0, slots := 0, locals := 0 }
theorem hdX8_within : yX8_within.cls = RX8 ∧ yX8_within.cls ≠ "java/lang/invoke/MethodHandle" ∧ yX8_within.cls ≠ "java/lang/invoke/VarHandle" ∧ (parseMethodDescriptor yX8_within.desc).map (fun d => d.parameters.length) = some 3 := by decide +kernel
set_option maxHeartbeats 4000000 in
set_option maxRecDepth 100000 in
theorem kX8_within (l : Launch) (p0 p1 p2 : Int32) : Met l yX8_within wsX8_within rmX8_within (spc [.int p0, .int p1, .int p2]) (vp_Si (fun x => x = (mX8_within p0 p1 p2) ∧ nbr (mX8_within p0 p1 p2))) 0 0 (fun _ => False) := by
  obtain ⟨r, hm⟩ : ∃ r, mX8_within p0 p1 p2 = r := ⟨_, rfl⟩
  rw [hm]
  unfold mX8_within at hm
  refine sp_ofW (cc := cX8_within) (maxL := 3) (ret := (some .boolean)) (own := RX8) (by decide) rfl rfl (Nat.le_of_ble_eq_true rfl) ?_
  intro p e s m args below meth c hx hb hr hts hown hlocks hml ls hl
  have hl : lv_has ls 3 [(0, .int p0), (1, .int p1), (2, .int p2)] := hl
  refine lv_iload_n hx hb dX8_within_0 rfl (lv_at hl 0 rfl) ?_
  refine lv_iload_n hx hb dX8_within_1 rfl (lv_at hl 1 rfl) ?_
  refine lv_icmp_lt (tgt := 14) hx hb dX8_within_2 (by decide) (fun c2 => ?_) (fun c2 => ?_)
  · try simp only [if_pos c2] at hm
    refine lv_iconst (v := 0) hx hb dX8_within_14 (by decide) ?_
    subst hm
    exact ro_iret hx hb hr rfl ⟨rfl, rfl⟩ dX8_within_15 hlocks
  · try simp only [if_neg c2] at hm
    refine lv_iload_n hx hb dX8_within_5 rfl (lv_at hl 0 rfl) ?_
    refine lv_iload_n hx hb dX8_within_6 rfl (lv_at hl 2 rfl) ?_
    refine lv_icmp_gt (tgt := 14) hx hb dX8_within_7 (by decide) (fun c7 => ?_) (fun c7 => ?_)
    · try simp only [if_pos c7] at hm
      refine lv_iconst (v := 0) hx hb dX8_within_14 (by decide) ?_
      subst hm
      exact ro_iret hx hb hr rfl ⟨rfl, rfl⟩ dX8_within_15 hlocks
    · try simp only [if_neg c7] at hm
      refine lv_iconst (v := 1) hx hb dX8_within_10 (by decide) ?_
      refine lv_goto (tgt := 15) hx hb dX8_within_11 (by decide) ?_
      subst hm
      exact ro_iret hx hb hr rfl ⟨rfl, rfl⟩ dX8_within_15 hlocks
def mX8_save_L10  : Nat → (Int32) → (Nat → Int32) → Option (Int32 × (Nat → Int32))
  | 0, _, _ => none
  | n + 1, x1_10, f_t_stack_L10 =>
    (if 765 ≤ x1_10 then
      some (x1_10, f_t_stack_L10)
    else
      ((rdA 1020 f_t_stack_L10 (x1_10 + 255)).bind fun r31 =>
      ((wrA 1020 f_t_stack_L10 x1_10 r31).bind fun f_t_stack_32 =>
      mX8_save_L10 n (x1_10 + 1) f_t_stack_32)))
def mX8_save (v_t_saved : Int32) (f_t_state : Nat → Int32) (f_t_stack : Nat → Int32) : Option (Int32 × (Nat → Int32)) :=
  (if v_t_saved = 4 then
    ((mX8_save_L10 FU 0 f_t_stack).bind fun (y1_10, f_t_stack_E10) =>
    ((mX8_copy 255 1020 f_t_state f_t_stack_E10 0 ((v_t_saved - 1) * 255)).bind fun f_t_stack_66 =>
    some (((v_t_saved - 1) + 1), f_t_stack_66)))
  else
    ((mX8_copy 255 1020 f_t_state f_t_stack 0 (v_t_saved * 255)).bind fun f_t_stack_66 =>
    some ((v_t_saved + 1), f_t_stack_66)))
abbrev rmX8_save : Room := { frames := 1, cells := 0, slots := 0, locals := 24 }
abbrev wX8_save (cA : ClassId) (a_t a_t_state a_t_kept a_t_stack a_t_text : Nat) (v_t_thrown v_t_saved v_t_textLength v_t_place v_t_sign v_t_readLetters v_t_readLength v_t_readNumber : Int32) (f_t_state f_t_stack : Nat → Int32) : va_W := [(a_t, .inr (7, [.int v_t_thrown, .ref a_t_state, .ref a_t_kept, .ref a_t_stack, .int v_t_saved, .ref a_t_text, .int v_t_textLength, .int v_t_place, .int v_t_sign, .int v_t_readLetters, .int v_t_readLength, .int v_t_readNumber])), (a_t_state, .inl (cA, 255, .inl f_t_state)), (a_t_stack, .inl (cA, 1020, .inl f_t_stack))]
theorem iX8_save_X8 : ∀ w ∈ wsX80, w ∈ wsX8_save := (fun _ h => List.mem_cons_of_mem _ (List.mem_append_right _ h))
theorem hdX8_save : yX8_save.cls = RX8 ∧ yX8_save.cls ≠ "java/lang/invoke/MethodHandle" ∧ yX8_save.cls ≠ "java/lang/invoke/VarHandle" ∧ (parseMethodDescriptor yX8_save.desc).map (fun d => d.parameters.length) = some 0 := by decide +kernel
set_option maxHeartbeats 4000000 in
set_option maxRecDepth 100000 in
theorem wX8_save_L10 {p : Program} {l : Launch} {e : Env} {s : State} {m : MethodId} {args : Array Value} {below : List Frame} {meth : Method} {c : Code} {Q : State → Prop} {A : Nat → Prop} (dC : Nat → ClassId) (dI : Nat → Nat → Nat) (cA : ClassId) (a_t a_t_state a_t_kept a_t_stack a_t_text : Nat) (v_t_thrown v_t_textLength v_t_place v_t_sign v_t_readLetters v_t_readLength v_t_readNumber : Int32) (f_t_state : Nat → Int32) (v_t_saved_L10 y1_10 : Int32) (f_t_stack_E10 : Nat → Int32) (hx : p.tables.exec = Jvm.exec) (hb : c.code = cX8_save) (hml : c.maxLocals = 2) (hown : s.vm.findClass RX8 = some m.cls) (hts : ∀ w ∈ wsX8_save, w.before args s = true) (hA : ∀ q, s.heap.size ≤ q → A q) (hK : va_K (dC, dI) vwCl [(cA, .int)] s)
    (kk0 : ∀ (H : Heap) (locs : List Loc), va_P (dC, dI) vwCl [(a_t, .inr (7, [.int v_t_thrown, .ref a_t_state, .ref a_t_kept, .ref a_t_stack, .int v_t_saved_L10, .ref a_t_text, .int v_t_textLength, .int v_t_place, .int v_t_sign, .int v_t_readLetters, .int v_t_readLength, .int v_t_readNumber])), (a_t_state, .inl (cA, 255, .inl f_t_state)), (a_t_stack, .inl (cA, 1020, .inl f_t_stack_E10))] H → va_D A [(a_t, .inr (7, [.int v_t_thrown, .ref a_t_state, .ref a_t_kept, .ref a_t_stack, .int v_t_saved_L10, .ref a_t_text, .int v_t_textLength, .int v_t_place, .int v_t_sign, .int v_t_readLetters, .int v_t_readLength, .int v_t_readNumber])), (a_t_state, .inl (cA, 255, .inl f_t_state)), (a_t_stack, .inl (cA, 1020, .inl f_t_stack_E10))] → va_S A s.heap H locs → ∀ ls : Array Slot, lv_has ls 2 [(0, .ref a_t), (1, .int y1_10)] → W p l e (headSpec wsX8_save rmX8_save).room s m args below meth c H locs 0 0 Q (F0 m 39 ls [])) :
    ∀ (n : Nat) (x1_10 : Int32) (f_t_stack_L10 : Nat → Int32), mX8_save_L10  n x1_10 f_t_stack_L10 = some (y1_10, f_t_stack_E10) → ∀ (H : Heap) (locs : List Loc), va_P (dC, dI) vwCl [(a_t, .inr (7, [.int v_t_thrown, .ref a_t_state, .ref a_t_kept, .ref a_t_stack, .int v_t_saved_L10, .ref a_t_text, .int v_t_textLength, .int v_t_place, .int v_t_sign, .int v_t_readLetters, .int v_t_readLength, .int v_t_readNumber])), (a_t_state, .inl (cA, 255, .inl f_t_state)), (a_t_stack, .inl (cA, 1020, .inl f_t_stack_L10))] H → va_D A [(a_t, .inr (7, [.int v_t_thrown, .ref a_t_state, .ref a_t_kept, .ref a_t_stack, .int v_t_saved_L10, .ref a_t_text, .int v_t_textLength, .int v_t_place, .int v_t_sign, .int v_t_readLetters, .int v_t_readLength, .int v_t_readNumber])), (a_t_state, .inl (cA, 255, .inl f_t_state)), (a_t_stack, .inl (cA, 1020, .inl f_t_stack_L10))] → va_S A s.heap H locs → ∀ ls : Array Slot, lv_has ls 2 [(0, .ref a_t), (1, .int x1_10)] → W p l e (headSpec wsX8_save rmX8_save).room s m args below meth c H locs 0 0 Q (F0 m 10 ls []) := by
  intro n
  induction n with
  | zero =>
    intro x1_10 f_t_stack_L10 hm
    cases hm
  | succ n ih =>
    intro x1_10 f_t_stack_L10 hm H locs hP hD hS ls hl
    rw [mX8_save_L10] at hm
    refine lv_iload_n hx hb dX8_save_10 rfl (lv_at hl 1 rfl) ?_
    refine lv_sipush (v := 765) hx hb dX8_save_11 (by decide) ?_
    refine lv_icmp_ge (tgt := 39) hx hb dX8_save_14 (by decide) (fun c14 => ?_) (fun c14 => ?_)
    · rw [if_pos c14] at hm
      cases hm
      exact kk0 _ _ (hP.sub [0, 1, 2] rfl) (hD.sub [0, 1, 2] (by decide) rfl) hS _ (lv_sub hl [0, 1] rfl)
    · rw [if_neg c14] at hm
      refine lv_aload_n hx hb dX8_save_17 rfl (lv_at hl 0 rfl) ?_
      refine va_get (D := (dC, dI)) (ci := 7) (C := RX8) (T := TX8) (N := 12) hx hb hts iX8_save_X8 hown hK hP 0 rfl rfl 3 (by decide) (hts _ (List.mem_of_getElem? (i := 2) rfl)) (fun _ h9 => h9) rfl dX8_save_18 ?_
      refine lv_iload_n hx hb dX8_save_21 rfl (lv_at hl 1 rfl) ?_
      refine lv_aload_n hx hb dX8_save_22 rfl (lv_at hl 0 rfl) ?_
      refine va_get (D := (dC, dI)) (ci := 7) (C := RX8) (T := TX8) (N := 12) hx hb hts iX8_save_X8 hown hK hP 0 rfl rfl 3 (by decide) (hts _ (List.mem_of_getElem? (i := 2) rfl)) (fun _ h9 => h9) rfl dX8_save_23 ?_
      refine lv_iload_n hx hb dX8_save_26 rfl (lv_at hl 1 rfl) ?_
      refine lv_sipush (v := 255) hx hb dX8_save_27 (by decide) ?_
      refine lv_iadd hx hb dX8_save_30 ?_
      obtain ⟨r31, e31, hm⟩ := bs hm
      try dsimp only at hm
      refine xa_ldO hx hb hK hP 2 0 rfl rfl e31 dX8_save_31 ?_
      obtain ⟨f_t_stack_32, e32, hm⟩ := bs hm
      try dsimp only at hm
      refine xa_stO hx hb hK hP hD hS 2 0 rfl rfl e32 dX8_save_32 (fun H locs hP hD hS => ?_)
      have hP : va_P (dC, dI) vwCl [(a_t, .inr (7, [.int v_t_thrown, .ref a_t_state, .ref a_t_kept, .ref a_t_stack, .int v_t_saved_L10, .ref a_t_text, .int v_t_textLength, .int v_t_place, .int v_t_sign, .int v_t_readLetters, .int v_t_readLength, .int v_t_readNumber])), (a_t_state, .inl (cA, 255, .inl f_t_state)), (a_t_stack, .inl (cA, 1020, .inl f_t_stack_32))] H := hP
      have hD : va_D A [(a_t, .inr (7, [.int v_t_thrown, .ref a_t_state, .ref a_t_kept, .ref a_t_stack, .int v_t_saved_L10, .ref a_t_text, .int v_t_textLength, .int v_t_place, .int v_t_sign, .int v_t_readLetters, .int v_t_readLength, .int v_t_readNumber])), (a_t_state, .inl (cA, 255, .inl f_t_state)), (a_t_stack, .inl (cA, 1020, .inl f_t_stack_32))] := hD
      refine lv_iinc (v := (x1_10 + 1)) (lv' := [(1, .int (x1_10 + 1)), (0, .ref a_t)]) hx hb dX8_save_33 hl (k := 1) rfl rfl (by decide) rfl (fun ls hl => ?_)
      refine lv_goto (tgt := 10) hx hb dX8_save_36 (by decide) ?_
      exact ih _ _ hm _ _ (hP.sub [0, 1, 2] rfl) (hD.sub [0, 1, 2] (by decide) rfl) hS _ (lv_sub hl [1, 0] rfl)
set_option maxHeartbeats 4000000 in
set_option maxRecDepth 100000 in
theorem kX8_save (l : Launch) (dC : Nat → ClassId) (dI : Nat → Nat → Nat) (cA : ClassId) (a_t a_t_state a_t_kept a_t_stack a_t_text : Nat) (v_t_thrown v_t_saved v_t_textLength v_t_place v_t_sign v_t_readLetters v_t_readLength v_t_readNumber : Int32) (f_t_state f_t_stack : Nat → Int32) (sz : Nat) (o_v_t_saved : Int32) (o_f_t_stack : Nat → Int32) (hm : (mX8_save v_t_saved f_t_state f_t_stack) = some (o_v_t_saved, o_f_t_stack)) : Met l yX8_save wsX8_save rmX8_save (mpc (dC, dI) [(cA, .int)] (wX8_save cA a_t a_t_state a_t_kept a_t_stack a_t_text v_t_thrown v_t_saved v_t_textLength v_t_place v_t_sign v_t_readLetters v_t_readLength v_t_readNumber f_t_state f_t_stack) [.ref a_t] sz) (mqv (dC, dI) [(cA, .int)] (va_A (wX8_save cA a_t a_t_state a_t_kept a_t_stack a_t_text v_t_thrown v_t_saved v_t_textLength v_t_place v_t_sign v_t_readLetters v_t_readLength v_t_readNumber f_t_state f_t_stack) sz) (wX8_save cA a_t a_t_state a_t_kept a_t_stack a_t_text v_t_thrown o_v_t_saved v_t_textLength v_t_place v_t_sign v_t_readLetters v_t_readLength v_t_readNumber f_t_state o_f_t_stack)) 0 0 (va_A (wX8_save cA a_t a_t_state a_t_kept a_t_stack a_t_text v_t_thrown v_t_saved v_t_textLength v_t_place v_t_sign v_t_readLetters v_t_readLength v_t_readNumber f_t_state f_t_stack) sz) := by
  unfold mX8_save at hm
  refine mu_ofW (Qc := fun A => mqv (dC, dI) [(cA, .int)] A (wX8_save cA a_t a_t_state a_t_kept a_t_stack a_t_text v_t_thrown o_v_t_saved v_t_textLength v_t_place v_t_sign v_t_readLetters v_t_readLength v_t_readNumber f_t_state o_f_t_stack)) (cc := cX8_save) (maxL := 2) (ret := none) (own := RX8) (by decide) rfl rfl (Nat.le_of_ble_eq_true rfl) ?_
  intro p e s m args below meth c hx hb hr hts hown hlocks hml hin A hA hP hD hS hK ls hl
  have hl : lv_has ls 2 [(0, .ref a_t)] := hl
  have hP : va_P (dC, dI) vwCl [(a_t, .inr (7, [.int v_t_thrown, .ref a_t_state, .ref a_t_kept, .ref a_t_stack, .int v_t_saved, .ref a_t_text, .int v_t_textLength, .int v_t_place, .int v_t_sign, .int v_t_readLetters, .int v_t_readLength, .int v_t_readNumber])), (a_t_state, .inl (cA, 255, .inl f_t_state)), (a_t_stack, .inl (cA, 1020, .inl f_t_stack))] s.heap := hP
  have hD : va_D A [(a_t, .inr (7, [.int v_t_thrown, .ref a_t_state, .ref a_t_kept, .ref a_t_stack, .int v_t_saved, .ref a_t_text, .int v_t_textLength, .int v_t_place, .int v_t_sign, .int v_t_readLetters, .int v_t_readLength, .int v_t_readNumber])), (a_t_state, .inl (cA, 255, .inl f_t_state)), (a_t_stack, .inl (cA, 1020, .inl f_t_stack))] := hD
  refine lv_aload_n hx hb dX8_save_0 rfl (lv_at hl 0 rfl) ?_
  refine va_get (D := (dC, dI)) (ci := 7) (C := RX8) (T := TX8) (N := 12) hx hb hts iX8_save_X8 hown hK hP 0 rfl rfl 4 (by decide) (hts _ (List.mem_of_getElem? (i := 1) rfl)) (fun _ h9 => h9) rfl dX8_save_1 ?_
  refine lv_iconst (v := 4) hx hb dX8_save_4 (by decide) ?_
  refine lv_icmp_ne (tgt := 49) hx hb dX8_save_5 (by decide) (fun c5 => ?_) (fun c5 => ?_)
  · rw [if_neg c5] at hm
    refine lv_aload_n hx hb dX8_save_49 rfl (lv_at hl 0 rfl) ?_
    refine va_get (D := (dC, dI)) (ci := 7) (C := RX8) (T := TX8) (N := 12) hx hb hts iX8_save_X8 hown hK hP 0 rfl rfl 1 (by decide) (hts _ (List.mem_of_getElem? (i := 3) rfl)) (fun _ h9 => h9) rfl dX8_save_50 ?_
    refine lv_iconst (v := 0) hx hb dX8_save_53 (by decide) ?_
    refine lv_aload_n hx hb dX8_save_54 rfl (lv_at hl 0 rfl) ?_
    refine va_get (D := (dC, dI)) (ci := 7) (C := RX8) (T := TX8) (N := 12) hx hb hts iX8_save_X8 hown hK hP 0 rfl rfl 3 (by decide) (hts _ (List.mem_of_getElem? (i := 2) rfl)) (fun _ h9 => h9) rfl dX8_save_55 ?_
    refine lv_aload_n hx hb dX8_save_58 rfl (lv_at hl 0 rfl) ?_
    refine va_get (D := (dC, dI)) (ci := 7) (C := RX8) (T := TX8) (N := 12) hx hb hts iX8_save_X8 hown hK hP 0 rfl rfl 4 (by decide) (hts _ (List.mem_of_getElem? (i := 1) rfl)) (fun _ h9 => h9) rfl dX8_save_59 ?_
    refine lv_sipush (v := 255) hx hb dX8_save_62 (by decide) ?_
    refine lv_imul hx hb dX8_save_65 ?_
    obtain ⟨f_t_stack_66, e66, hm⟩ := bs hm
    try dsimp only at hm
    refine mu_callSv (wr := [(a_t, .inr (7, [.int v_t_thrown, .ref a_t_state, .ref a_t_kept, .ref a_t_stack, .int v_t_saved, .ref a_t_text, .int v_t_textLength, .int v_t_place, .int v_t_sign, .int v_t_readLetters, .int v_t_readLength, .int v_t_readNumber]))]) ⟨hx, hb, hml, hown, hts⟩ (kX8_copy l dC dI cA a_t_state a_t_stack 255 1020 (by decide) (by decide) f_t_state f_t_stack 0 (v_t_saved * 255) _ f_t_stack_66 e66) (va_cwS 4 hts gX8_save_X8_copy rfl rfl rfl hdX8_copy.2 ⟨Nat.le_of_ble_eq_true rfl, Nat.le_of_ble_eq_true rfl⟩) hP hD hS hA hK [1, 2] [0] rfl rfl rfl rfl (by decide) rfl hl.1 rfl (Nat.le_of_ble_eq_true rfl) dX8_save_66 ⟨Nat.zero_le _, Nat.zero_le _⟩ (fun H locs hP hD hS => ?_)
    have hP : va_P (dC, dI) vwCl [(a_t, .inr (7, [.int v_t_thrown, .ref a_t_state, .ref a_t_kept, .ref a_t_stack, .int v_t_saved, .ref a_t_text, .int v_t_textLength, .int v_t_place, .int v_t_sign, .int v_t_readLetters, .int v_t_readLength, .int v_t_readNumber])), (a_t_state, .inl (cA, 255, .inl f_t_state)), (a_t_stack, .inl (cA, 1020, .inl f_t_stack_66))] H := hP
    have hD : va_D A [(a_t, .inr (7, [.int v_t_thrown, .ref a_t_state, .ref a_t_kept, .ref a_t_stack, .int v_t_saved, .ref a_t_text, .int v_t_textLength, .int v_t_place, .int v_t_sign, .int v_t_readLetters, .int v_t_readLength, .int v_t_readNumber])), (a_t_state, .inl (cA, 255, .inl f_t_state)), (a_t_stack, .inl (cA, 1020, .inl f_t_stack_66))] := hD
    refine lv_aload_n hx hb dX8_save_69 rfl (lv_at hl 0 rfl) ?_
    refine lv_dup hx hb dX8_save_70 rfl ?_
    refine va_get (D := (dC, dI)) (ci := 7) (C := RX8) (T := TX8) (N := 12) hx hb hts iX8_save_X8 hown hK hP 0 rfl rfl 4 (by decide) (hts _ (List.mem_of_getElem? (i := 1) rfl)) (fun _ h9 => h9) rfl dX8_save_71 ?_
    refine lv_iconst (v := 1) hx hb dX8_save_74 (by decide) ?_
    refine lv_iadd hx hb dX8_save_75 ?_
    refine va_put (D := (dC, dI)) (ci := 7) (C := RX8) (T := TX8) (N := 12) (ty := .int) hx hb hts iX8_save_X8 tyX8 tyX8_ok nmX8 hown hK hP hD hS 0 rfl rfl 4 (by decide) (hts _ (List.mem_of_getElem? (i := 1) rfl)) (fun _ h9 => h9) rfl (by decide +kernel) rfl rfl (Nat.le_of_ble_eq_true rfl) dX8_save_76 (fun H locs hP hD hS => ?_)
    have hP : va_P (dC, dI) vwCl [(a_t, .inr (7, [.int v_t_thrown, .ref a_t_state, .ref a_t_kept, .ref a_t_stack, .int (v_t_saved + 1), .ref a_t_text, .int v_t_textLength, .int v_t_place, .int v_t_sign, .int v_t_readLetters, .int v_t_readLength, .int v_t_readNumber])), (a_t_state, .inl (cA, 255, .inl f_t_state)), (a_t_stack, .inl (cA, 1020, .inl f_t_stack_66))] H := hP
    have hD : va_D A [(a_t, .inr (7, [.int v_t_thrown, .ref a_t_state, .ref a_t_kept, .ref a_t_stack, .int (v_t_saved + 1), .ref a_t_text, .int v_t_textLength, .int v_t_place, .int v_t_sign, .int v_t_readLetters, .int v_t_readLength, .int v_t_readNumber])), (a_t_state, .inl (cA, 255, .inl f_t_state)), (a_t_stack, .inl (cA, 1020, .inl f_t_stack_66))] := hD
    cases hm
    exact mu_vret hx hb hr hP hD hS hK [0, 1, 2] rfl (by decide) dX8_save_79 hlocks
  · rw [if_pos c5] at hm
    refine lv_iconst (v := 0) hx hb dX8_save_8 (by decide) ?_
    refine lv_istore_n (lv' := [(1, .int 0), (0, .ref a_t)]) hx hb dX8_save_9 rfl hl (by decide) rfl (fun ls hl => ?_)
    obtain ⟨⟨y1_10, f_t_stack_E10⟩, e10, hm⟩ := bs hm
    try dsimp only at hm
    refine wX8_save_L10 dC dI cA a_t a_t_state a_t_kept a_t_stack a_t_text v_t_thrown v_t_textLength v_t_place v_t_sign v_t_readLetters v_t_readLength v_t_readNumber f_t_state v_t_saved y1_10 f_t_stack_E10 hx hb hml hown hts hA hK ?_ FU _ _ e10 _ _ (hP.sub [0, 1, 2] rfl) (hD.sub [0, 1, 2] (by decide) rfl) hS _ (lv_sub hl [1, 0] rfl)
    · intro H locs hP hD hS ls hl
      refine lv_aload_n hx hb dX8_save_39 rfl (lv_at hl 0 rfl) ?_
      refine lv_dup hx hb dX8_save_40 rfl ?_
      refine va_get (D := (dC, dI)) (ci := 7) (C := RX8) (T := TX8) (N := 12) hx hb hts iX8_save_X8 hown hK hP 0 rfl rfl 4 (by decide) (hts _ (List.mem_of_getElem? (i := 1) rfl)) (fun _ h9 => h9) rfl dX8_save_41 ?_
      refine lv_iconst (v := 1) hx hb dX8_save_44 (by decide) ?_
      refine lv_isub hx hb dX8_save_45 ?_
      refine va_put (D := (dC, dI)) (ci := 7) (C := RX8) (T := TX8) (N := 12) (ty := .int) hx hb hts iX8_save_X8 tyX8 tyX8_ok nmX8 hown hK hP hD hS 0 rfl rfl 4 (by decide) (hts _ (List.mem_of_getElem? (i := 1) rfl)) (fun _ h9 => h9) rfl (by decide +kernel) rfl rfl (Nat.le_of_ble_eq_true rfl) dX8_save_46 (fun H locs hP hD hS => ?_)
      have hP : va_P (dC, dI) vwCl [(a_t, .inr (7, [.int v_t_thrown, .ref a_t_state, .ref a_t_kept, .ref a_t_stack, .int (v_t_saved - 1), .ref a_t_text, .int v_t_textLength, .int v_t_place, .int v_t_sign, .int v_t_readLetters, .int v_t_readLength, .int v_t_readNumber])), (a_t_state, .inl (cA, 255, .inl f_t_state)), (a_t_stack, .inl (cA, 1020, .inl f_t_stack_E10))] H := hP
      have hD : va_D A [(a_t, .inr (7, [.int v_t_thrown, .ref a_t_state, .ref a_t_kept, .ref a_t_stack, .int (v_t_saved - 1), .ref a_t_text, .int v_t_textLength, .int v_t_place, .int v_t_sign, .int v_t_readLetters, .int v_t_readLength, .int v_t_readNumber])), (a_t_state, .inl (cA, 255, .inl f_t_state)), (a_t_stack, .inl (cA, 1020, .inl f_t_stack_E10))] := hD
      refine lv_aload_n hx hb dX8_save_49 rfl (lv_at hl 0 rfl) ?_
      refine va_get (D := (dC, dI)) (ci := 7) (C := RX8) (T := TX8) (N := 12) hx hb hts iX8_save_X8 hown hK hP 0 rfl rfl 1 (by decide) (hts _ (List.mem_of_getElem? (i := 3) rfl)) (fun _ h9 => h9) rfl dX8_save_50 ?_
      refine lv_iconst (v := 0) hx hb dX8_save_53 (by decide) ?_
      refine lv_aload_n hx hb dX8_save_54 rfl (lv_at hl 0 rfl) ?_
      refine va_get (D := (dC, dI)) (ci := 7) (C := RX8) (T := TX8) (N := 12) hx hb hts iX8_save_X8 hown hK hP 0 rfl rfl 3 (by decide) (hts _ (List.mem_of_getElem? (i := 2) rfl)) (fun _ h9 => h9) rfl dX8_save_55 ?_
      refine lv_aload_n hx hb dX8_save_58 rfl (lv_at hl 0 rfl) ?_
      refine va_get (D := (dC, dI)) (ci := 7) (C := RX8) (T := TX8) (N := 12) hx hb hts iX8_save_X8 hown hK hP 0 rfl rfl 4 (by decide) (hts _ (List.mem_of_getElem? (i := 1) rfl)) (fun _ h9 => h9) rfl dX8_save_59 ?_
      refine lv_sipush (v := 255) hx hb dX8_save_62 (by decide) ?_
      refine lv_imul hx hb dX8_save_65 ?_
      obtain ⟨f_t_stack_66, e66, hm⟩ := bs hm
      try dsimp only at hm
      refine mu_callSv (wr := [(a_t, .inr (7, [.int v_t_thrown, .ref a_t_state, .ref a_t_kept, .ref a_t_stack, .int (v_t_saved - 1), .ref a_t_text, .int v_t_textLength, .int v_t_place, .int v_t_sign, .int v_t_readLetters, .int v_t_readLength, .int v_t_readNumber]))]) ⟨hx, hb, hml, hown, hts⟩ (kX8_copy l dC dI cA a_t_state a_t_stack 255 1020 (by decide) (by decide) f_t_state f_t_stack_E10 0 ((v_t_saved - 1) * 255) _ f_t_stack_66 e66) (va_cwS 4 hts gX8_save_X8_copy rfl rfl rfl hdX8_copy.2 ⟨Nat.le_of_ble_eq_true rfl, Nat.le_of_ble_eq_true rfl⟩) hP hD hS hA hK [1, 2] [0] rfl rfl rfl rfl (by decide) rfl hl.1 rfl (Nat.le_of_ble_eq_true rfl) dX8_save_66 ⟨Nat.zero_le _, Nat.zero_le _⟩ (fun H locs hP hD hS => ?_)
      have hP : va_P (dC, dI) vwCl [(a_t, .inr (7, [.int v_t_thrown, .ref a_t_state, .ref a_t_kept, .ref a_t_stack, .int (v_t_saved - 1), .ref a_t_text, .int v_t_textLength, .int v_t_place, .int v_t_sign, .int v_t_readLetters, .int v_t_readLength, .int v_t_readNumber])), (a_t_state, .inl (cA, 255, .inl f_t_state)), (a_t_stack, .inl (cA, 1020, .inl f_t_stack_66))] H := hP
      have hD : va_D A [(a_t, .inr (7, [.int v_t_thrown, .ref a_t_state, .ref a_t_kept, .ref a_t_stack, .int (v_t_saved - 1), .ref a_t_text, .int v_t_textLength, .int v_t_place, .int v_t_sign, .int v_t_readLetters, .int v_t_readLength, .int v_t_readNumber])), (a_t_state, .inl (cA, 255, .inl f_t_state)), (a_t_stack, .inl (cA, 1020, .inl f_t_stack_66))] := hD
      refine lv_aload_n hx hb dX8_save_69 rfl (lv_at hl 0 rfl) ?_
      refine lv_dup hx hb dX8_save_70 rfl ?_
      refine va_get (D := (dC, dI)) (ci := 7) (C := RX8) (T := TX8) (N := 12) hx hb hts iX8_save_X8 hown hK hP 0 rfl rfl 4 (by decide) (hts _ (List.mem_of_getElem? (i := 1) rfl)) (fun _ h9 => h9) rfl dX8_save_71 ?_
      refine lv_iconst (v := 1) hx hb dX8_save_74 (by decide) ?_
      refine lv_iadd hx hb dX8_save_75 ?_
      refine va_put (D := (dC, dI)) (ci := 7) (C := RX8) (T := TX8) (N := 12) (ty := .int) hx hb hts iX8_save_X8 tyX8 tyX8_ok nmX8 hown hK hP hD hS 0 rfl rfl 4 (by decide) (hts _ (List.mem_of_getElem? (i := 1) rfl)) (fun _ h9 => h9) rfl (by decide +kernel) rfl rfl (Nat.le_of_ble_eq_true rfl) dX8_save_76 (fun H locs hP hD hS => ?_)
      have hP : va_P (dC, dI) vwCl [(a_t, .inr (7, [.int v_t_thrown, .ref a_t_state, .ref a_t_kept, .ref a_t_stack, .int ((v_t_saved - 1) + 1), .ref a_t_text, .int v_t_textLength, .int v_t_place, .int v_t_sign, .int v_t_readLetters, .int v_t_readLength, .int v_t_readNumber])), (a_t_state, .inl (cA, 255, .inl f_t_state)), (a_t_stack, .inl (cA, 1020, .inl f_t_stack_66))] H := hP
      have hD : va_D A [(a_t, .inr (7, [.int v_t_thrown, .ref a_t_state, .ref a_t_kept, .ref a_t_stack, .int ((v_t_saved - 1) + 1), .ref a_t_text, .int v_t_textLength, .int v_t_place, .int v_t_sign, .int v_t_readLetters, .int v_t_readLength, .int v_t_readNumber])), (a_t_state, .inl (cA, 255, .inl f_t_state)), (a_t_stack, .inl (cA, 1020, .inl f_t_stack_66))] := hD
      cases hm
      exact mu_vret hx hb hr hP hD hS hK [0, 1, 2] rfl (by decide) dX8_save_79 hlocks
def mX8_isPrefix (p0 : Int32) (p1 : Int32) (p2 : Int32) : Int32 :=
  (if (mX8_within p1 p2 8) = 0 then 0 else (if (mX8_within p0 0 ((1 <<< ((3 * p1) &&& 31)) - 1)) = 0 then (0 : Int32) else 1))
abbrev rmX8_isPrefix : Room := { frames := 1, cells := 0, slots := 0, locals := 22 }
theorem hdX8_isPrefix : yX8_isPrefix.cls = RX8 ∧ yX8_isPrefix.cls ≠ "java/lang/invoke/MethodHandle" ∧ yX8_isPrefix.cls ≠ "java/lang/invoke/VarHandle" ∧ (parseMethodDescriptor yX8_isPrefix.desc).map (fun d => d.parameters.length) = some 3 := by decide +kernel
set_option maxHeartbeats 4000000 in
set_option maxRecDepth 100000 in
theorem kX8_isPrefix (l : Launch) (p0 p1 p2 : Int32) : Met l yX8_isPrefix wsX8_isPrefix rmX8_isPrefix (spc [.int p0, .int p1, .int p2]) (vp_Si (fun x => x = (mX8_isPrefix p0 p1 p2) ∧ nbr (mX8_isPrefix p0 p1 p2))) 0 0 (fun _ => False) := by
  obtain ⟨r, hm⟩ : ∃ r, mX8_isPrefix p0 p1 p2 = r := ⟨_, rfl⟩
  rw [hm]
  unfold mX8_isPrefix at hm
  refine sp_ofW (cc := cX8_isPrefix) (maxL := 3) (ret := (some .boolean)) (own := RX8) (by decide) rfl rfl (Nat.le_of_ble_eq_true rfl) ?_
  intro p e s m args below meth c hx hb hr hts hown hlocks hml ls hl
  have hl : lv_has ls 3 [(0, .int p0), (1, .int p1), (2, .int p2)] := hl
  refine lv_iload_n hx hb dX8_isPrefix_0 rfl (lv_at hl 1 rfl) ?_
  refine lv_iload_n hx hb dX8_isPrefix_1 rfl (lv_at hl 2 rfl) ?_
  refine lv_bipush (v := 8) hx hb dX8_isPrefix_2 (by decide) ?_
  refine sp_callSz ⟨hx, hb, hml, hown, hts⟩ (kX8_within l p1 p2 8) (va_cwS 3 hts gX8_isPrefix_X8_within rfl rfl rfl hdX8_within.2 ⟨Nat.le_of_ble_eq_true rfl, Nat.le_of_ble_eq_true rfl⟩) rfl hl.1 rfl (Nat.le_of_ble_eq_true rfl) dX8_isPrefix_4 ⟨Nat.zero_le _, Nat.zero_le _⟩ (fun hb4 => ?_)
  refine lv_if_eq (tgt := 29) hx hb dX8_isPrefix_7 (by decide) (fun c7 => ?_) (fun c7 => ?_)
  · try simp only [if_pos c7] at hm
    refine lv_iconst (v := 0) hx hb dX8_isPrefix_29 (by decide) ?_
    subst hm
    exact ro_iret hx hb hr rfl ⟨rfl, rfl⟩ dX8_isPrefix_30 hlocks
  · try simp only [if_neg c7] at hm
    refine lv_iload_n hx hb dX8_isPrefix_10 rfl (lv_at hl 0 rfl) ?_
    refine lv_iconst (v := 0) hx hb dX8_isPrefix_11 (by decide) ?_
    refine lv_iconst (v := 1) hx hb dX8_isPrefix_12 (by decide) ?_
    refine lv_iconst (v := 3) hx hb dX8_isPrefix_13 (by decide) ?_
    refine lv_iload_n hx hb dX8_isPrefix_14 rfl (lv_at hl 1 rfl) ?_
    refine lv_imul hx hb dX8_isPrefix_15 ?_
    refine lv_ishl hx hb dX8_isPrefix_16 ?_
    refine lv_iconst (v := 1) hx hb dX8_isPrefix_17 (by decide) ?_
    refine lv_isub hx hb dX8_isPrefix_18 ?_
    refine sp_callSz ⟨hx, hb, hml, hown, hts⟩ (kX8_within l p0 0 ((1 <<< ((3 * p1) &&& 31)) - 1)) (va_cwS 3 hts gX8_isPrefix_X8_within rfl rfl rfl hdX8_within.2 ⟨Nat.le_of_ble_eq_true rfl, Nat.le_of_ble_eq_true rfl⟩) rfl hl.1 rfl (Nat.le_of_ble_eq_true rfl) dX8_isPrefix_19 ⟨Nat.zero_le _, Nat.zero_le _⟩ (fun hb19 => ?_)
    refine lv_if_eq (tgt := 29) hx hb dX8_isPrefix_22 (by decide) (fun c22 => ?_) (fun c22 => ?_)
    · try simp only [if_pos c22] at hm
      refine lv_iconst (v := 0) hx hb dX8_isPrefix_29 (by decide) ?_
      subst hm
      exact ro_iret hx hb hr rfl ⟨rfl, rfl⟩ dX8_isPrefix_30 hlocks
    · try simp only [if_neg c22] at hm
      refine lv_iconst (v := 1) hx hb dX8_isPrefix_25 (by decide) ?_
      refine lv_goto (tgt := 30) hx hb dX8_isPrefix_26 (by decide) ?_
      subst hm
      exact ro_iret hx hb hr rfl ⟨rfl, rfl⟩ dX8_isPrefix_30 hlocks
def mX8_code (p0 : Int32) (p1 : Int32) : Int32 :=
  (((p0 <<< ((3 * (8 - p1)) &&& 31)) <<< (4 &&& 31)) ||| p1)
abbrev rmX8_code : Room := { frames := 0, cells := 0, slots := 0, locals := 0 }
theorem hdX8_code : yX8_code.cls = RX8 ∧ yX8_code.cls ≠ "java/lang/invoke/MethodHandle" ∧ yX8_code.cls ≠ "java/lang/invoke/VarHandle" ∧ (parseMethodDescriptor yX8_code.desc).map (fun d => d.parameters.length) = some 2 := by decide +kernel
set_option maxHeartbeats 4000000 in
set_option maxRecDepth 100000 in
theorem kX8_code (l : Launch) (p0 p1 : Int32) : Met l yX8_code wsX8_code rmX8_code (spc [.int p0, .int p1]) (vp_Si (fun x => x = (mX8_code p0 p1))) 0 0 (fun _ => False) := by
  obtain ⟨r, hm⟩ : ∃ r, mX8_code p0 p1 = r := ⟨_, rfl⟩
  rw [hm]
  unfold mX8_code at hm
  refine sp_ofW (cc := cX8_code) (maxL := 2) (ret := (some .int)) (own := RX8) (by decide) rfl rfl (Nat.le_of_ble_eq_true rfl) ?_
  intro p e s m args below meth c hx hb hr hts hown hlocks hml ls hl
  have hl : lv_has ls 2 [(0, .int p0), (1, .int p1)] := hl
  refine lv_iload_n hx hb dX8_code_0 rfl (lv_at hl 0 rfl) ?_
  refine lv_iconst (v := 3) hx hb dX8_code_1 (by decide) ?_
  refine lv_bipush (v := 8) hx hb dX8_code_2 (by decide) ?_
  refine lv_iload_n hx hb dX8_code_4 rfl (lv_at hl 1 rfl) ?_
  refine lv_isub hx hb dX8_code_5 ?_
  refine lv_imul hx hb dX8_code_6 ?_
  refine lv_ishl hx hb dX8_code_7 ?_
  refine lv_iconst (v := 4) hx hb dX8_code_8 (by decide) ?_
  refine lv_ishl hx hb dX8_code_9 ?_
  refine lv_iload_n hx hb dX8_code_10 rfl (lv_at hl 1 rfl) ?_
  refine lv_ior hx hb dX8_code_11 ?_
  subst hm
  exact ro_iret hx hb hr rfl rfl dX8_code_12 hlocks
def mX8_lengthOf (p0 : Int32) : Int32 :=
  (p0 &&& 15)
abbrev rmX8_lengthOf : Room := { frames := 0, cells := 0, slots := 0, locals := 0 }
theorem hdX8_lengthOf : yX8_lengthOf.cls = RX8 ∧ yX8_lengthOf.cls ≠ "java/lang/invoke/MethodHandle" ∧ yX8_lengthOf.cls ≠ "java/lang/invoke/VarHandle" ∧ (parseMethodDescriptor yX8_lengthOf.desc).map (fun d => d.parameters.length) = some 1 := by decide +kernel
set_option maxHeartbeats 4000000 in
set_option maxRecDepth 100000 in
theorem kX8_lengthOf (l : Launch) (p0 : Int32) : Met l yX8_lengthOf wsX8_lengthOf rmX8_lengthOf (spc [.int p0]) (vp_Si (fun x => x = (mX8_lengthOf p0))) 0 0 (fun _ => False) := by
  obtain ⟨r, hm⟩ : ∃ r, mX8_lengthOf p0 = r := ⟨_, rfl⟩
  rw [hm]
  unfold mX8_lengthOf at hm
  refine sp_ofW (cc := cX8_lengthOf) (maxL := 1) (ret := (some .int)) (own := RX8) (by decide) rfl rfl (Nat.le_of_ble_eq_true rfl) ?_
  intro p e s m args below meth c hx hb hr hts hown hlocks hml ls hl
  have hl : lv_has ls 1 [(0, .int p0)] := hl
  refine lv_iload_n hx hb dX8_lengthOf_0 rfl (lv_at hl 0 rfl) ?_
  refine lv_bipush (v := 15) hx hb dX8_lengthOf_1 (by decide) ?_
  refine lv_iand hx hb dX8_lengthOf_3 ?_
  subst hm
  exact ro_iret hx hb hr rfl rfl dX8_lengthOf_4 hlocks
def mX8_lettersOf (p0 : Int32) : Int32 :=
  ((p0 >>> (4 &&& 31)) >>> ((3 * (8 - (mX8_lengthOf p0))) &&& 31))
abbrev rmX8_lettersOf : Room := { frames := 1, cells := 0, slots := 0, locals := 20 }
theorem hdX8_lettersOf : yX8_lettersOf.cls = RX8 ∧ yX8_lettersOf.cls ≠ "java/lang/invoke/MethodHandle" ∧ yX8_lettersOf.cls ≠ "java/lang/invoke/VarHandle" ∧ (parseMethodDescriptor yX8_lettersOf.desc).map (fun d => d.parameters.length) = some 1 := by decide +kernel
set_option maxHeartbeats 4000000 in
set_option maxRecDepth 100000 in
theorem kX8_lettersOf (l : Launch) (p0 : Int32) : Met l yX8_lettersOf wsX8_lettersOf rmX8_lettersOf (spc [.int p0]) (vp_Si (fun x => x = (mX8_lettersOf p0))) 0 0 (fun _ => False) := by
  obtain ⟨r, hm⟩ : ∃ r, mX8_lettersOf p0 = r := ⟨_, rfl⟩
  rw [hm]
  unfold mX8_lettersOf at hm
  refine sp_ofW (cc := cX8_lettersOf) (maxL := 1) (ret := (some .int)) (own := RX8) (by decide) rfl rfl (Nat.le_of_ble_eq_true rfl) ?_
  intro p e s m args below meth c hx hb hr hts hown hlocks hml ls hl
  have hl : lv_has ls 1 [(0, .int p0)] := hl
  refine lv_iload_n hx hb dX8_lettersOf_0 rfl (lv_at hl 0 rfl) ?_
  refine lv_iconst (v := 4) hx hb dX8_lettersOf_1 (by decide) ?_
  refine lv_ishr hx hb dX8_lettersOf_2 ?_
  refine lv_iconst (v := 3) hx hb dX8_lettersOf_3 (by decide) ?_
  refine lv_bipush (v := 8) hx hb dX8_lettersOf_4 (by decide) ?_
  refine lv_iload_n hx hb dX8_lettersOf_6 rfl (lv_at hl 0 rfl) ?_
  refine sp_callSe ⟨hx, hb, hml, hown, hts⟩ (kX8_lengthOf l p0) (va_cwS 1 hts gX8_lettersOf_X8_lengthOf rfl rfl rfl hdX8_lengthOf.2 ⟨Nat.le_of_ble_eq_true rfl, Nat.le_of_ble_eq_true rfl⟩) rfl hl.1 rfl (Nat.le_of_ble_eq_true rfl) dX8_lettersOf_7 ⟨Nat.zero_le _, Nat.zero_le _⟩ ?_
  refine lv_isub hx hb dX8_lettersOf_10 ?_
  refine lv_imul hx hb dX8_lettersOf_11 ?_
  refine lv_ishr hx hb dX8_lettersOf_12 ?_
  subst hm
  exact ro_iret hx hb hr rfl rfl dX8_lettersOf_13 hlocks
def mX8_shortened (p0 : Int32) (p1 : Int32) : Int32 :=
  (mX8_code ((mX8_lettersOf p0) >>> ((3 * ((mX8_lengthOf p0) - p1)) &&& 31)) p1)
abbrev rmX8_shortened : Room := { frames := 2, cells := 0, slots := 0, locals := 40 }
theorem hdX8_shortened : yX8_shortened.cls = RX8 ∧ yX8_shortened.cls ≠ "java/lang/invoke/MethodHandle" ∧ yX8_shortened.cls ≠ "java/lang/invoke/VarHandle" ∧ (parseMethodDescriptor yX8_shortened.desc).map (fun d => d.parameters.length) = some 2 := by decide +kernel
set_option maxHeartbeats 4000000 in
set_option maxRecDepth 100000 in
theorem kX8_shortened (l : Launch) (p0 p1 : Int32) : Met l yX8_shortened wsX8_shortened rmX8_shortened (spc [.int p0, .int p1]) (vp_Si (fun x => x = (mX8_shortened p0 p1))) 0 0 (fun _ => False) := by
  obtain ⟨r, hm⟩ : ∃ r, mX8_shortened p0 p1 = r := ⟨_, rfl⟩
  rw [hm]
  unfold mX8_shortened at hm
  refine sp_ofW (cc := cX8_shortened) (maxL := 2) (ret := (some .int)) (own := RX8) (by decide) rfl rfl (Nat.le_of_ble_eq_true rfl) ?_
  intro p e s m args below meth c hx hb hr hts hown hlocks hml ls hl
  have hl : lv_has ls 2 [(0, .int p0), (1, .int p1)] := hl
  refine lv_iload_n hx hb dX8_shortened_0 rfl (lv_at hl 0 rfl) ?_
  refine sp_callSe ⟨hx, hb, hml, hown, hts⟩ (kX8_lettersOf l p0) (va_cwS 1 hts gX8_shortened_X8_lettersOf rfl rfl rfl hdX8_lettersOf.2 ⟨Nat.le_of_ble_eq_true rfl, Nat.le_of_ble_eq_true rfl⟩) rfl hl.1 rfl (Nat.le_of_ble_eq_true rfl) dX8_shortened_1 ⟨Nat.zero_le _, Nat.zero_le _⟩ ?_
  refine lv_iconst (v := 3) hx hb dX8_shortened_4 (by decide) ?_
  refine lv_iload_n hx hb dX8_shortened_5 rfl (lv_at hl 0 rfl) ?_
  refine sp_callSe ⟨hx, hb, hml, hown, hts⟩ (kX8_lengthOf l p0) (va_cwS 1 hts gX8_shortened_X8_lengthOf rfl rfl rfl hdX8_lengthOf.2 ⟨Nat.le_of_ble_eq_true rfl, Nat.le_of_ble_eq_true rfl⟩) rfl hl.1 rfl (Nat.le_of_ble_eq_true rfl) dX8_shortened_6 ⟨Nat.zero_le _, Nat.zero_le _⟩ ?_
  refine lv_iload_n hx hb dX8_shortened_9 rfl (lv_at hl 1 rfl) ?_
  refine lv_isub hx hb dX8_shortened_10 ?_
  refine lv_imul hx hb dX8_shortened_11 ?_
  refine lv_ishr hx hb dX8_shortened_12 ?_
  refine lv_iload_n hx hb dX8_shortened_13 rfl (lv_at hl 1 rfl) ?_
  refine sp_callSe ⟨hx, hb, hml, hown, hts⟩ (kX8_code l ((mX8_lettersOf p0) >>> ((3 * ((mX8_lengthOf p0) - p1)) &&& 31)) p1) (va_cwS 2 hts gX8_shortened_X8_code rfl rfl rfl hdX8_code.2 ⟨Nat.le_of_ble_eq_true rfl, Nat.le_of_ble_eq_true rfl⟩) rfl hl.1 rfl (Nat.le_of_ble_eq_true rfl) dX8_shortened_14 ⟨Nat.zero_le _, Nat.zero_le _⟩ ?_
  subst hm
  exact ro_iret hx hb hr rfl rfl dX8_shortened_17 hlocks
def mX8_begins (p0 : Int32) (p1 : Int32) : Int32 :=
  (if (mX8_lengthOf p1) < (mX8_lengthOf p0) then 0 else (if (mX8_shortened p1 (mX8_lengthOf p0)) = p0 then (1 : Int32) else 0))
abbrev rmX8_begins : Room := { frames := 3, cells := 0, slots := 0, locals := 61 }
theorem hdX8_begins : yX8_begins.cls = RX8 ∧ yX8_begins.cls ≠ "java/lang/invoke/MethodHandle" ∧ yX8_begins.cls ≠ "java/lang/invoke/VarHandle" ∧ (parseMethodDescriptor yX8_begins.desc).map (fun d => d.parameters.length) = some 2 := by decide +kernel
set_option maxHeartbeats 4000000 in
set_option maxRecDepth 100000 in
theorem kX8_begins (l : Launch) (p0 p1 : Int32) : Met l yX8_begins wsX8_begins rmX8_begins (spc [.int p0, .int p1]) (vp_Si (fun x => x = (mX8_begins p0 p1) ∧ nbr (mX8_begins p0 p1))) 0 0 (fun _ => False) := by
  obtain ⟨r, hm⟩ : ∃ r, mX8_begins p0 p1 = r := ⟨_, rfl⟩
  rw [hm]
  unfold mX8_begins at hm
  refine sp_ofW (cc := cX8_begins) (maxL := 2) (ret := (some .boolean)) (own := RX8) (by decide) rfl rfl (Nat.le_of_ble_eq_true rfl) ?_
  intro p e s m args below meth c hx hb hr hts hown hlocks hml ls hl
  have hl : lv_has ls 2 [(0, .int p0), (1, .int p1)] := hl
  refine lv_iload_n hx hb dX8_begins_0 rfl (lv_at hl 0 rfl) ?_
  refine sp_callSe ⟨hx, hb, hml, hown, hts⟩ (kX8_lengthOf l p0) (va_cwS 1 hts gX8_begins_X8_lengthOf rfl rfl rfl hdX8_lengthOf.2 ⟨Nat.le_of_ble_eq_true rfl, Nat.le_of_ble_eq_true rfl⟩) rfl hl.1 rfl (Nat.le_of_ble_eq_true rfl) dX8_begins_1 ⟨Nat.zero_le _, Nat.zero_le _⟩ ?_
  refine lv_iload_n hx hb dX8_begins_4 rfl (lv_at hl 1 rfl) ?_
  refine sp_callSe ⟨hx, hb, hml, hown, hts⟩ (kX8_lengthOf l p1) (va_cwS 1 hts gX8_begins_X8_lengthOf rfl rfl rfl hdX8_lengthOf.2 ⟨Nat.le_of_ble_eq_true rfl, Nat.le_of_ble_eq_true rfl⟩) rfl hl.1 rfl (Nat.le_of_ble_eq_true rfl) dX8_begins_5 ⟨Nat.zero_le _, Nat.zero_le _⟩ ?_
  refine lv_icmp_gt (tgt := 27) hx hb dX8_begins_8 (by decide) (fun c8 => ?_) (fun c8 => ?_)
  · try simp only [if_pos c8] at hm
    refine lv_iconst (v := 0) hx hb dX8_begins_27 (by decide) ?_
    subst hm
    exact ro_iret hx hb hr rfl ⟨rfl, rfl⟩ dX8_begins_28 hlocks
  · try simp only [if_neg c8] at hm
    refine lv_iload_n hx hb dX8_begins_11 rfl (lv_at hl 1 rfl) ?_
    refine lv_iload_n hx hb dX8_begins_12 rfl (lv_at hl 0 rfl) ?_
    refine sp_callSe ⟨hx, hb, hml, hown, hts⟩ (kX8_lengthOf l p0) (va_cwS 1 hts gX8_begins_X8_lengthOf rfl rfl rfl hdX8_lengthOf.2 ⟨Nat.le_of_ble_eq_true rfl, Nat.le_of_ble_eq_true rfl⟩) rfl hl.1 rfl (Nat.le_of_ble_eq_true rfl) dX8_begins_13 ⟨Nat.zero_le _, Nat.zero_le _⟩ ?_
    refine sp_callSe ⟨hx, hb, hml, hown, hts⟩ (kX8_shortened l p1 (mX8_lengthOf p0)) (va_cwS 2 hts gX8_begins_X8_shortened rfl rfl rfl hdX8_shortened.2 ⟨Nat.le_of_ble_eq_true rfl, Nat.le_of_ble_eq_true rfl⟩) rfl hl.1 rfl (Nat.le_of_ble_eq_true rfl) dX8_begins_16 ⟨Nat.zero_le _, Nat.zero_le _⟩ ?_
    refine lv_iload_n hx hb dX8_begins_19 rfl (lv_at hl 0 rfl) ?_
    refine lv_icmp_ne (tgt := 27) hx hb dX8_begins_20 (by decide) (fun c20 => ?_) (fun c20 => ?_)
    · try simp only [if_neg c20] at hm
      refine lv_iconst (v := 0) hx hb dX8_begins_27 (by decide) ?_
      subst hm
      exact ro_iret hx hb hr rfl ⟨rfl, rfl⟩ dX8_begins_28 hlocks
    · try simp only [if_pos c20] at hm
      refine lv_iconst (v := 1) hx hb dX8_begins_23 (by decide) ?_
      refine lv_goto (tgt := 28) hx hb dX8_begins_24 (by decide) ?_
      subst hm
      exact ro_iret hx hb hr rfl ⟨rfl, rfl⟩ dX8_begins_28 hlocks
def mX8_name (f_t_state : Nat → Int32) (p1 : Int32) : Option (Int32) :=
  ((rdA 255 f_t_state (7 + p1)).bind fun r8 =>
  some r8)
abbrev rmX8_name : Room := { frames := 0, cells := 0, slots := 0, locals := 0 }
abbrev wX8_name (cA : ClassId) (a_t a_t_state a_t_kept a_t_stack a_t_text : Nat) (v_t_thrown v_t_saved v_t_textLength v_t_place v_t_sign v_t_readLetters v_t_readLength v_t_readNumber : Int32) (f_t_state : Nat → Int32) : va_W := [(a_t, .inr (7, [.int v_t_thrown, .ref a_t_state, .ref a_t_kept, .ref a_t_stack, .int v_t_saved, .ref a_t_text, .int v_t_textLength, .int v_t_place, .int v_t_sign, .int v_t_readLetters, .int v_t_readLength, .int v_t_readNumber])), (a_t_state, .inl (cA, 255, .inl f_t_state))]
theorem iX8_name_X8 : ∀ w ∈ wsX80, w ∈ wsX8_name := (fun _ h => List.mem_cons_of_mem _ (List.mem_append_right _ h))
theorem hdX8_name : yX8_name.cls = RX8 ∧ yX8_name.cls ≠ "java/lang/invoke/MethodHandle" ∧ yX8_name.cls ≠ "java/lang/invoke/VarHandle" ∧ (parseMethodDescriptor yX8_name.desc).map (fun d => d.parameters.length) = some 1 := by decide +kernel
set_option maxHeartbeats 4000000 in
set_option maxRecDepth 100000 in
theorem kX8_name (l : Launch) (dC : Nat → ClassId) (dI : Nat → Nat → Nat) (cA : ClassId) (a_t a_t_state a_t_kept a_t_stack a_t_text : Nat) (v_t_thrown v_t_saved v_t_textLength v_t_place v_t_sign v_t_readLetters v_t_readLength v_t_readNumber : Int32) (f_t_state : Nat → Int32) (p1 r : Int32) (hm : (mX8_name f_t_state p1) = some r) : Met l yX8_name wsX8_name rmX8_name (rpc (dC, dI) [(cA, .int)] (wX8_name cA a_t a_t_state a_t_kept a_t_stack a_t_text v_t_thrown v_t_saved v_t_textLength v_t_place v_t_sign v_t_readLetters v_t_readLength v_t_readNumber f_t_state) [.ref a_t, .int p1]) (vp_Si (fun x => x = r)) 0 0 (fun _ => False) := by
  unfold mX8_name at hm
  refine ro_ofW (cc := cX8_name) (maxL := 2) (ret := (some .int)) (own := RX8) (by decide) rfl rfl (Nat.le_of_ble_eq_true rfl) ?_
  intro p e s m args below meth c hx hb hr hts hown hlocks hml hP hK ls hl
  have hl : lv_has ls 2 [(0, .ref a_t), (1, .int p1)] := hl
  have hP : va_P (dC, dI) vwCl [(a_t, .inr (7, [.int v_t_thrown, .ref a_t_state, .ref a_t_kept, .ref a_t_stack, .int v_t_saved, .ref a_t_text, .int v_t_textLength, .int v_t_place, .int v_t_sign, .int v_t_readLetters, .int v_t_readLength, .int v_t_readNumber])), (a_t_state, .inl (cA, 255, .inl f_t_state))] s.heap := hP
  refine lv_aload_n hx hb dX8_name_0 rfl (lv_at hl 0 rfl) ?_
  refine va_get (D := (dC, dI)) (ci := 7) (C := RX8) (T := TX8) (N := 12) hx hb hts iX8_name_X8 hown hK hP 0 rfl rfl 1 (by decide) (hts _ (List.mem_of_getElem? (i := 1) rfl)) (fun _ h9 => h9) rfl dX8_name_1 ?_
  refine lv_bipush (v := 7) hx hb dX8_name_4 (by decide) ?_
  refine lv_iload_n hx hb dX8_name_6 rfl (lv_at hl 1 rfl) ?_
  refine lv_iadd hx hb dX8_name_7 ?_
  obtain ⟨r8, e8, hm⟩ := bs hm
  try dsimp only at hm
  refine xa_ldO hx hb hK hP 1 0 rfl rfl e8 dX8_name_8 ?_
  cases hm
  exact ro_iret hx hb hr rfl rfl dX8_name_9 hlocks
def mX8_prefixOf (f_t_state : Nat → Int32) (p1 : Int32) : Option (Int32) :=
  ((rdA 255 f_t_state (55 + p1)).bind fun r8 =>
  some r8)
abbrev rmX8_prefixOf : Room := { frames := 0, cells := 0, slots := 0, locals := 0 }
abbrev wX8_prefixOf (cA : ClassId) (a_t a_t_state a_t_kept a_t_stack a_t_text : Nat) (v_t_thrown v_t_saved v_t_textLength v_t_place v_t_sign v_t_readLetters v_t_readLength v_t_readNumber : Int32) (f_t_state : Nat → Int32) : va_W := [(a_t, .inr (7, [.int v_t_thrown, .ref a_t_state, .ref a_t_kept, .ref a_t_stack, .int v_t_saved, .ref a_t_text, .int v_t_textLength, .int v_t_place, .int v_t_sign, .int v_t_readLetters, .int v_t_readLength, .int v_t_readNumber])), (a_t_state, .inl (cA, 255, .inl f_t_state))]
theorem iX8_prefixOf_X8 : ∀ w ∈ wsX80, w ∈ wsX8_prefixOf := (fun _ h => List.mem_cons_of_mem _ (List.mem_append_right _ h))
theorem hdX8_prefixOf : yX8_prefixOf.cls = RX8 ∧ yX8_prefixOf.cls ≠ "java/lang/invoke/MethodHandle" ∧ yX8_prefixOf.cls ≠ "java/lang/invoke/VarHandle" ∧ (parseMethodDescriptor yX8_prefixOf.desc).map (fun d => d.parameters.length) = some 1 := by decide +kernel
set_option maxHeartbeats 4000000 in
set_option maxRecDepth 100000 in
theorem kX8_prefixOf (l : Launch) (dC : Nat → ClassId) (dI : Nat → Nat → Nat) (cA : ClassId) (a_t a_t_state a_t_kept a_t_stack a_t_text : Nat) (v_t_thrown v_t_saved v_t_textLength v_t_place v_t_sign v_t_readLetters v_t_readLength v_t_readNumber : Int32) (f_t_state : Nat → Int32) (p1 r : Int32) (hm : (mX8_prefixOf f_t_state p1) = some r) : Met l yX8_prefixOf wsX8_prefixOf rmX8_prefixOf (rpc (dC, dI) [(cA, .int)] (wX8_prefixOf cA a_t a_t_state a_t_kept a_t_stack a_t_text v_t_thrown v_t_saved v_t_textLength v_t_place v_t_sign v_t_readLetters v_t_readLength v_t_readNumber f_t_state) [.ref a_t, .int p1]) (vp_Si (fun x => x = r)) 0 0 (fun _ => False) := by
  unfold mX8_prefixOf at hm
  refine ro_ofW (cc := cX8_prefixOf) (maxL := 2) (ret := (some .int)) (own := RX8) (by decide) rfl rfl (Nat.le_of_ble_eq_true rfl) ?_
  intro p e s m args below meth c hx hb hr hts hown hlocks hml hP hK ls hl
  have hl : lv_has ls 2 [(0, .ref a_t), (1, .int p1)] := hl
  have hP : va_P (dC, dI) vwCl [(a_t, .inr (7, [.int v_t_thrown, .ref a_t_state, .ref a_t_kept, .ref a_t_stack, .int v_t_saved, .ref a_t_text, .int v_t_textLength, .int v_t_place, .int v_t_sign, .int v_t_readLetters, .int v_t_readLength, .int v_t_readNumber])), (a_t_state, .inl (cA, 255, .inl f_t_state))] s.heap := hP
  refine lv_aload_n hx hb dX8_prefixOf_0 rfl (lv_at hl 0 rfl) ?_
  refine va_get (D := (dC, dI)) (ci := 7) (C := RX8) (T := TX8) (N := 12) hx hb hts iX8_prefixOf_X8 hown hK hP 0 rfl rfl 1 (by decide) (hts _ (List.mem_of_getElem? (i := 1) rfl)) (fun _ h9 => h9) rfl dX8_prefixOf_1 ?_
  refine lv_bipush (v := 55) hx hb dX8_prefixOf_4 (by decide) ?_
  refine lv_iload_n hx hb dX8_prefixOf_6 rfl (lv_at hl 1 rfl) ?_
  refine lv_iadd hx hb dX8_prefixOf_7 ?_
  obtain ⟨r8, e8, hm⟩ := bs hm
  try dsimp only at hm
  refine xa_ldO hx hb hK hP 1 0 rfl rfl e8 dX8_prefixOf_8 ?_
  cases hm
  exact ro_iret hx hb hr rfl rfl dX8_prefixOf_9 hlocks
def mX8_rankOf_L4 (f_t_state : Nat → Int32) (x1_4 : Int32) : Nat → (Int32) → (Int32) → Option (Int32 × Int32)
  | 0, _, _ => none
  | n + 1, x2_4, x3_4 =>
    (if (f_t_state 1) ≤ x3_4 then
      some (x2_4, x3_4)
    else
      ((mX8_name f_t_state x3_4).bind fun r17 =>
      mX8_rankOf_L4 f_t_state x1_4 n (x2_4 + (if x1_4 ≤ r17 then (0 : Int32) else 1)) (x3_4 + 1)))
def mX8_rankOf (f_t_state : Nat → Int32) (p1 : Int32) : Option (Int32) :=
  ((mX8_rankOf_L4 f_t_state p1 FU 0 0).bind fun (y2_4, y3_4) =>
  some y2_4)
abbrev rmX8_rankOf : Room := { frames := 1, cells := 0, slots := 0, locals := 21 }
abbrev wX8_rankOf (cA : ClassId) (a_t a_t_state a_t_kept a_t_stack a_t_text : Nat) (v_t_thrown v_t_saved v_t_textLength v_t_place v_t_sign v_t_readLetters v_t_readLength v_t_readNumber : Int32) (f_t_state : Nat → Int32) : va_W := [(a_t, .inr (7, [.int v_t_thrown, .ref a_t_state, .ref a_t_kept, .ref a_t_stack, .int v_t_saved, .ref a_t_text, .int v_t_textLength, .int v_t_place, .int v_t_sign, .int v_t_readLetters, .int v_t_readLength, .int v_t_readNumber])), (a_t_state, .inl (cA, 255, .inl f_t_state))]
theorem iX8_rankOf_X8 : ∀ w ∈ wsX80, w ∈ wsX8_rankOf := (fun _ h => List.mem_cons_of_mem _ (List.mem_append_right _ h))
theorem hdX8_rankOf : yX8_rankOf.cls = RX8 ∧ yX8_rankOf.cls ≠ "java/lang/invoke/MethodHandle" ∧ yX8_rankOf.cls ≠ "java/lang/invoke/VarHandle" ∧ (parseMethodDescriptor yX8_rankOf.desc).map (fun d => d.parameters.length) = some 1 := by decide +kernel
set_option maxHeartbeats 4000000 in
set_option maxRecDepth 100000 in
theorem wX8_rankOf_L4 {p : Program} {l : Launch} {e : Env} {s : State} {m : MethodId} {args : Array Value} {below : List Frame} {meth : Method} {c : Code} {Q : State → Prop} {H : Heap} (dC : Nat → ClassId) (dI : Nat → Nat → Nat) (cA : ClassId) (a_t a_t_state a_t_kept a_t_stack a_t_text : Nat) (v_t_thrown v_t_saved v_t_textLength v_t_place v_t_sign v_t_readLetters v_t_readLength v_t_readNumber : Int32) (f_t_state : Nat → Int32) (p1 x1_4 y2_4 y3_4 : Int32) (hx : p.tables.exec = Jvm.exec) (hb : c.code = cX8_rankOf) (hml : c.maxLocals = 4) (hown : s.vm.findClass RX8 = some m.cls) (hts : ∀ w ∈ wsX8_rankOf, w.before args s = true) (hK : va_K (dC, dI) vwCl [(cA, .int)] s) (hP : va_P (dC, dI) vwCl [(a_t, .inr (7, [.int v_t_thrown, .ref a_t_state, .ref a_t_kept, .ref a_t_stack, .int v_t_saved, .ref a_t_text, .int v_t_textLength, .int v_t_place, .int v_t_sign, .int v_t_readLetters, .int v_t_readLength, .int v_t_readNumber])), (a_t_state, .inl (cA, 255, .inl f_t_state))] H)
    (kk0 : ∀ ls : Array Slot, lv_has ls 4 [(0, .ref a_t), (1, .int x1_4), (2, .int y2_4), (3, .int y3_4)] → W p l e (headSpec wsX8_rankOf rmX8_rankOf).room s m args below meth c H [] 0 0 Q (F0 m 37 ls [])) :
    ∀ (n : Nat) (x2_4 x3_4 : Int32), mX8_rankOf_L4 f_t_state x1_4 n x2_4 x3_4 = some (y2_4, y3_4) → ∀ ls : Array Slot, lv_has ls 4 [(0, .ref a_t), (1, .int x1_4), (2, .int x2_4), (3, .int x3_4)] → W p l e (headSpec wsX8_rankOf rmX8_rankOf).room s m args below meth c H [] 0 0 Q (F0 m 4 ls []) := by
  intro n
  induction n with
  | zero =>
    intro x2_4 x3_4 hm
    cases hm
  | succ n ih =>
    intro x2_4 x3_4 hm ls hl
    rw [mX8_rankOf_L4] at hm
    refine lv_iload_n hx hb dX8_rankOf_4 rfl (lv_at hl 3 rfl) ?_
    refine lv_aload_n hx hb dX8_rankOf_5 rfl (lv_at hl 0 rfl) ?_
    refine va_get (D := (dC, dI)) (ci := 7) (C := RX8) (T := TX8) (N := 12) hx hb hts iX8_rankOf_X8 hown hK hP 0 rfl rfl 1 (by decide) (hts _ (List.mem_of_getElem? (i := 1) rfl)) (fun _ h9 => h9) rfl dX8_rankOf_6 ?_
    refine lv_iconst (v := 1) hx hb dX8_rankOf_9 (by decide) ?_
    refine xa_ldK hx hb hK hP 1 0 rfl rfl 1 rfl (by decide) (by decide) dX8_rankOf_10 ?_
    refine lv_icmp_ge (tgt := 37) hx hb dX8_rankOf_11 (by decide) (fun c11 => ?_) (fun c11 => ?_)
    · rw [if_pos c11] at hm
      cases hm
      exact kk0 _ (lv_sub hl [0, 1, 2, 3] rfl)
    · rw [if_neg c11] at hm
      refine lv_iload_n hx hb dX8_rankOf_14 rfl (lv_at hl 2 rfl) ?_
      refine lv_aload_n hx hb dX8_rankOf_15 rfl (lv_at hl 0 rfl) ?_
      refine lv_iload_n hx hb dX8_rankOf_16 rfl (lv_at hl 3 rfl) ?_
      obtain ⟨r17, e17, hm⟩ := bs hm
      try dsimp only at hm
      refine ro_callVe ⟨hx, hb, hml, hown, hts⟩ (kX8_name l dC dI cA a_t a_t_state a_t_kept a_t_stack a_t_text v_t_thrown v_t_saved v_t_textLength v_t_place v_t_sign v_t_readLetters v_t_readLength v_t_readNumber f_t_state x3_4 r17 e17) (cwV 1 hts gX8_rankOf_X8_name rfl rfl rfl hdX8_name ⟨Nat.le_of_ble_eq_true rfl, Nat.le_of_ble_eq_true rfl⟩) (hP.sub [0, 1] rfl) hK rfl rfl rfl hl.1 rfl (Nat.le_of_ble_eq_true rfl) dX8_rankOf_17 ⟨Nat.zero_le _, Nat.zero_le _⟩ ?_
      refine lv_iload_n hx hb dX8_rankOf_20 rfl (lv_at hl 1 rfl) ?_
      refine lv_icmp_ge (tgt := 28) hx hb dX8_rankOf_21 (by decide) (fun c21 => ?_) (fun c21 => ?_)
      · try simp only [if_pos c21] at hm
        refine lv_iconst (v := 0) hx hb dX8_rankOf_28 (by decide) ?_
        refine lv_iadd hx hb dX8_rankOf_29 ?_
        refine lv_istore_n (lv' := [(2, .int (x2_4 + 0)), (0, .ref a_t), (1, .int x1_4), (3, .int x3_4)]) hx hb dX8_rankOf_30 rfl hl (by decide) rfl (fun ls hl => ?_)
        refine lv_iinc (v := (x3_4 + 1)) (lv' := [(3, .int (x3_4 + 1)), (2, .int (x2_4 + 0)), (0, .ref a_t), (1, .int x1_4)]) hx hb dX8_rankOf_31 hl (k := 3) rfl rfl (by decide) rfl (fun ls hl => ?_)
        refine lv_goto (tgt := 4) hx hb dX8_rankOf_34 (by decide) ?_
        exact ih _ _ hm _ (lv_sub hl [2, 3, 1, 0] rfl)
      · try simp only [if_neg c21] at hm
        refine lv_iconst (v := 1) hx hb dX8_rankOf_24 (by decide) ?_
        refine lv_goto (tgt := 29) hx hb dX8_rankOf_25 (by decide) ?_
        refine lv_iadd hx hb dX8_rankOf_29 ?_
        refine lv_istore_n (lv' := [(2, .int (x2_4 + 1)), (0, .ref a_t), (1, .int x1_4), (3, .int x3_4)]) hx hb dX8_rankOf_30 rfl hl (by decide) rfl (fun ls hl => ?_)
        refine lv_iinc (v := (x3_4 + 1)) (lv' := [(3, .int (x3_4 + 1)), (2, .int (x2_4 + 1)), (0, .ref a_t), (1, .int x1_4)]) hx hb dX8_rankOf_31 hl (k := 3) rfl rfl (by decide) rfl (fun ls hl => ?_)
        refine lv_goto (tgt := 4) hx hb dX8_rankOf_34 (by decide) ?_
        exact ih _ _ hm _ (lv_sub hl [2, 3, 1, 0] rfl)
set_option maxHeartbeats 4000000 in
set_option maxRecDepth 100000 in
theorem kX8_rankOf (l : Launch) (dC : Nat → ClassId) (dI : Nat → Nat → Nat) (cA : ClassId) (a_t a_t_state a_t_kept a_t_stack a_t_text : Nat) (v_t_thrown v_t_saved v_t_textLength v_t_place v_t_sign v_t_readLetters v_t_readLength v_t_readNumber : Int32) (f_t_state : Nat → Int32) (p1 r : Int32) (hm : (mX8_rankOf f_t_state p1) = some r) : Met l yX8_rankOf wsX8_rankOf rmX8_rankOf (rpc (dC, dI) [(cA, .int)] (wX8_rankOf cA a_t a_t_state a_t_kept a_t_stack a_t_text v_t_thrown v_t_saved v_t_textLength v_t_place v_t_sign v_t_readLetters v_t_readLength v_t_readNumber f_t_state) [.ref a_t, .int p1]) (vp_Si (fun x => x = r)) 0 0 (fun _ => False) := by
  unfold mX8_rankOf at hm
  refine ro_ofW (cc := cX8_rankOf) (maxL := 4) (ret := (some .int)) (own := RX8) (by decide) rfl rfl (Nat.le_of_ble_eq_true rfl) ?_
  intro p e s m args below meth c hx hb hr hts hown hlocks hml hP hK ls hl
  have hl : lv_has ls 4 [(0, .ref a_t), (1, .int p1)] := hl
  have hP : va_P (dC, dI) vwCl [(a_t, .inr (7, [.int v_t_thrown, .ref a_t_state, .ref a_t_kept, .ref a_t_stack, .int v_t_saved, .ref a_t_text, .int v_t_textLength, .int v_t_place, .int v_t_sign, .int v_t_readLetters, .int v_t_readLength, .int v_t_readNumber])), (a_t_state, .inl (cA, 255, .inl f_t_state))] s.heap := hP
  refine lv_iconst (v := 0) hx hb dX8_rankOf_0 (by decide) ?_
  refine lv_istore_n (lv' := [(2, .int 0), (0, .ref a_t), (1, .int p1)]) hx hb dX8_rankOf_1 rfl hl (by decide) rfl (fun ls hl => ?_)
  refine lv_iconst (v := 0) hx hb dX8_rankOf_2 (by decide) ?_
  refine lv_istore_n (lv' := [(3, .int 0), (2, .int 0), (0, .ref a_t), (1, .int p1)]) hx hb dX8_rankOf_3 rfl hl (by decide) rfl (fun ls hl => ?_)
  obtain ⟨⟨y2_4, y3_4⟩, e4, hm⟩ := bs hm
  try dsimp only at hm
  refine wX8_rankOf_L4 dC dI cA a_t a_t_state a_t_kept a_t_stack a_t_text v_t_thrown v_t_saved v_t_textLength v_t_place v_t_sign v_t_readLetters v_t_readLength v_t_readNumber f_t_state p1 p1 y2_4 y3_4 hx hb hml hown hts hK (hP.sub [0, 1] rfl) ?_ FU _ _ e4 _ (lv_sub hl [2, 3, 1, 0] rfl)
  · intro ls hl
    refine lv_iload_n hx hb dX8_rankOf_37 rfl (lv_at hl 2 rfl) ?_
    cases hm
    exact ro_iret hx hb hr rfl rfl dX8_rankOf_38 hlocks
def mX8_findName (f_t_state : Nat → Int32) (p1 : Int32) : Option (Int32) :=
  ((mX8_rankOf f_t_state p1).bind fun r2 =>
  (if (f_t_state 1) ≤ r2 then
    some (-1)
  else
    ((mX8_name f_t_state r2).bind fun r18 =>
    some (if r18 = p1 then r2 else (-1)))))
abbrev rmX8_findName : Room := { frames := 2, cells := 0, slots := 0, locals := 44 }
abbrev wX8_findName (cA : ClassId) (a_t a_t_state a_t_kept a_t_stack a_t_text : Nat) (v_t_thrown v_t_saved v_t_textLength v_t_place v_t_sign v_t_readLetters v_t_readLength v_t_readNumber : Int32) (f_t_state : Nat → Int32) : va_W := [(a_t, .inr (7, [.int v_t_thrown, .ref a_t_state, .ref a_t_kept, .ref a_t_stack, .int v_t_saved, .ref a_t_text, .int v_t_textLength, .int v_t_place, .int v_t_sign, .int v_t_readLetters, .int v_t_readLength, .int v_t_readNumber])), (a_t_state, .inl (cA, 255, .inl f_t_state))]
theorem iX8_findName_X8 : ∀ w ∈ wsX80, w ∈ wsX8_findName := (fun _ h => List.mem_cons_of_mem _ (List.mem_append_right _ h))
theorem hdX8_findName : yX8_findName.cls = RX8 ∧ yX8_findName.cls ≠ "java/lang/invoke/MethodHandle" ∧ yX8_findName.cls ≠ "java/lang/invoke/VarHandle" ∧ (parseMethodDescriptor yX8_findName.desc).map (fun d => d.parameters.length) = some 1 := by decide +kernel
set_option maxHeartbeats 4000000 in
set_option maxRecDepth 100000 in
theorem kX8_findName (l : Launch) (dC : Nat → ClassId) (dI : Nat → Nat → Nat) (cA : ClassId) (a_t a_t_state a_t_kept a_t_stack a_t_text : Nat) (v_t_thrown v_t_saved v_t_textLength v_t_place v_t_sign v_t_readLetters v_t_readLength v_t_readNumber : Int32) (f_t_state : Nat → Int32) (p1 r : Int32) (hm : (mX8_findName f_t_state p1) = some r) : Met l yX8_findName wsX8_findName rmX8_findName (rpc (dC, dI) [(cA, .int)] (wX8_findName cA a_t a_t_state a_t_kept a_t_stack a_t_text v_t_thrown v_t_saved v_t_textLength v_t_place v_t_sign v_t_readLetters v_t_readLength v_t_readNumber f_t_state) [.ref a_t, .int p1]) (vp_Si (fun x => x = r)) 0 0 (fun _ => False) := by
  unfold mX8_findName at hm
  refine ro_ofW (cc := cX8_findName) (maxL := 3) (ret := (some .int)) (own := RX8) (by decide) rfl rfl (Nat.le_of_ble_eq_true rfl) ?_
  intro p e s m args below meth c hx hb hr hts hown hlocks hml hP hK ls hl
  have hl : lv_has ls 3 [(0, .ref a_t), (1, .int p1)] := hl
  have hP : va_P (dC, dI) vwCl [(a_t, .inr (7, [.int v_t_thrown, .ref a_t_state, .ref a_t_kept, .ref a_t_stack, .int v_t_saved, .ref a_t_text, .int v_t_textLength, .int v_t_place, .int v_t_sign, .int v_t_readLetters, .int v_t_readLength, .int v_t_readNumber])), (a_t_state, .inl (cA, 255, .inl f_t_state))] s.heap := hP
  refine lv_aload_n hx hb dX8_findName_0 rfl (lv_at hl 0 rfl) ?_
  refine lv_iload_n hx hb dX8_findName_1 rfl (lv_at hl 1 rfl) ?_
  obtain ⟨r2, e2, hm⟩ := bs hm
  try dsimp only at hm
  refine ro_callVe ⟨hx, hb, hml, hown, hts⟩ (kX8_rankOf l dC dI cA a_t a_t_state a_t_kept a_t_stack a_t_text v_t_thrown v_t_saved v_t_textLength v_t_place v_t_sign v_t_readLetters v_t_readLength v_t_readNumber f_t_state p1 r2 e2) (cwV 1 hts gX8_findName_X8_rankOf rfl rfl rfl hdX8_rankOf ⟨Nat.le_of_ble_eq_true rfl, Nat.le_of_ble_eq_true rfl⟩) (hP.sub [0, 1] rfl) hK rfl rfl rfl hl.1 rfl (Nat.le_of_ble_eq_true rfl) dX8_findName_2 ⟨Nat.zero_le _, Nat.zero_le _⟩ ?_
  refine lv_istore_n (lv' := [(2, .int r2), (0, .ref a_t), (1, .int p1)]) hx hb dX8_findName_5 rfl hl (by decide) rfl (fun ls hl => ?_)
  refine lv_iload_n hx hb dX8_findName_6 rfl (lv_at hl 0 rfl) ?_
  refine lv_aload_n hx hb dX8_findName_7 rfl (lv_at hl 1 rfl) ?_
  refine va_get (D := (dC, dI)) (ci := 7) (C := RX8) (T := TX8) (N := 12) hx hb hts iX8_findName_X8 hown hK hP 0 rfl rfl 1 (by decide) (hts _ (List.mem_of_getElem? (i := 1) rfl)) (fun _ h9 => h9) rfl dX8_findName_8 ?_
  refine lv_iconst (v := 1) hx hb dX8_findName_11 (by decide) ?_
  refine xa_ldK hx hb hK hP 1 0 rfl rfl 1 rfl (by decide) (by decide) dX8_findName_12 ?_
  refine lv_icmp_ge (tgt := 29) hx hb dX8_findName_13 (by decide) (fun c13 => ?_) (fun c13 => ?_)
  · rw [if_pos c13] at hm
    refine lv_iconst (v := (-1)) hx hb dX8_findName_29 (by decide) ?_
    cases hm
    exact ro_iret hx hb hr rfl rfl dX8_findName_30 hlocks
  · rw [if_neg c13] at hm
    refine lv_aload_n hx hb dX8_findName_16 rfl (lv_at hl 1 rfl) ?_
    refine lv_iload_n hx hb dX8_findName_17 rfl (lv_at hl 0 rfl) ?_
    obtain ⟨r18, e18, hm⟩ := bs hm
    try dsimp only at hm
    refine ro_callVe ⟨hx, hb, hml, hown, hts⟩ (kX8_name l dC dI cA a_t a_t_state a_t_kept a_t_stack a_t_text v_t_thrown v_t_saved v_t_textLength v_t_place v_t_sign v_t_readLetters v_t_readLength v_t_readNumber f_t_state r2 r18 e18) (cwV 1 hts gX8_findName_X8_name rfl rfl rfl hdX8_name ⟨Nat.le_of_ble_eq_true rfl, Nat.le_of_ble_eq_true rfl⟩) (hP.sub [0, 1] rfl) hK rfl rfl rfl hl.1 rfl (Nat.le_of_ble_eq_true rfl) dX8_findName_18 ⟨Nat.zero_le _, Nat.zero_le _⟩ ?_
    refine lv_iload_n hx hb dX8_findName_21 rfl (lv_at hl 2 rfl) ?_
    refine lv_icmp_ne (tgt := 29) hx hb dX8_findName_22 (by decide) (fun c22 => ?_) (fun c22 => ?_)
    · try simp only [if_neg c22] at hm
      refine lv_iconst (v := (-1)) hx hb dX8_findName_29 (by decide) ?_
      cases hm
      exact ro_iret hx hb hr rfl rfl dX8_findName_30 hlocks
    · try simp only [if_pos c22] at hm
      refine lv_iload_n hx hb dX8_findName_25 rfl (lv_at hl 0 rfl) ?_
      refine lv_goto (tgt := 30) hx hb dX8_findName_26 (by decide) ?_
      cases hm
      exact ro_iret hx hb hr rfl rfl dX8_findName_30 hlocks
def mX8_countBelow_L4 (f_t_state : Nat → Int32) (x1_4 : Int32) : Nat → (Int32) → (Int32) → Option (Int32 × Int32)
  | 0, _, _ => none
  | n + 1, x2_4, x3_4 =>
    (if (f_t_state 1) ≤ x3_4 then
      some (x2_4, x3_4)
    else
      ((mX8_name f_t_state x3_4).bind fun r18 =>
      mX8_countBelow_L4 f_t_state x1_4 n (x2_4 + (if (mX8_begins x1_4 r18) = 0 then (0 : Int32) else 1)) (x3_4 + 1)))
def mX8_countBelow (f_t_state : Nat → Int32) (p1 : Int32) : Option (Int32) :=
  ((mX8_countBelow_L4 f_t_state p1 FU 0 0).bind fun (y2_4, y3_4) =>
  some y2_4)
abbrev rmX8_countBelow : Room := { frames := 4, cells := 0, slots := 0, locals := 82 }
abbrev wX8_countBelow (cA : ClassId) (a_t a_t_state a_t_kept a_t_stack a_t_text : Nat) (v_t_thrown v_t_saved v_t_textLength v_t_place v_t_sign v_t_readLetters v_t_readLength v_t_readNumber : Int32) (f_t_state : Nat → Int32) : va_W := [(a_t, .inr (7, [.int v_t_thrown, .ref a_t_state, .ref a_t_kept, .ref a_t_stack, .int v_t_saved, .ref a_t_text, .int v_t_textLength, .int v_t_place, .int v_t_sign, .int v_t_readLetters, .int v_t_readLength, .int v_t_readNumber])), (a_t_state, .inl (cA, 255, .inl f_t_state))]
theorem iX8_countBelow_X8 : ∀ w ∈ wsX80, w ∈ wsX8_countBelow := (fun _ h => List.mem_cons_of_mem _ (List.mem_append_right _ h))
theorem hdX8_countBelow : yX8_countBelow.cls = RX8 ∧ yX8_countBelow.cls ≠ "java/lang/invoke/MethodHandle" ∧ yX8_countBelow.cls ≠ "java/lang/invoke/VarHandle" ∧ (parseMethodDescriptor yX8_countBelow.desc).map (fun d => d.parameters.length) = some 1 := by decide +kernel
set_option maxHeartbeats 4000000 in
set_option maxRecDepth 100000 in
theorem wX8_countBelow_L4 {p : Program} {l : Launch} {e : Env} {s : State} {m : MethodId} {args : Array Value} {below : List Frame} {meth : Method} {c : Code} {Q : State → Prop} {H : Heap} (dC : Nat → ClassId) (dI : Nat → Nat → Nat) (cA : ClassId) (a_t a_t_state a_t_kept a_t_stack a_t_text : Nat) (v_t_thrown v_t_saved v_t_textLength v_t_place v_t_sign v_t_readLetters v_t_readLength v_t_readNumber : Int32) (f_t_state : Nat → Int32) (p1 x1_4 y2_4 y3_4 : Int32) (hx : p.tables.exec = Jvm.exec) (hb : c.code = cX8_countBelow) (hml : c.maxLocals = 4) (hown : s.vm.findClass RX8 = some m.cls) (hts : ∀ w ∈ wsX8_countBelow, w.before args s = true) (hK : va_K (dC, dI) vwCl [(cA, .int)] s) (hP : va_P (dC, dI) vwCl [(a_t, .inr (7, [.int v_t_thrown, .ref a_t_state, .ref a_t_kept, .ref a_t_stack, .int v_t_saved, .ref a_t_text, .int v_t_textLength, .int v_t_place, .int v_t_sign, .int v_t_readLetters, .int v_t_readLength, .int v_t_readNumber])), (a_t_state, .inl (cA, 255, .inl f_t_state))] H)
    (kk0 : ∀ ls : Array Slot, lv_has ls 4 [(0, .ref a_t), (1, .int x1_4), (2, .int y2_4), (3, .int y3_4)] → W p l e (headSpec wsX8_countBelow rmX8_countBelow).room s m args below meth c H [] 0 0 Q (F0 m 40 ls [])) :
    ∀ (n : Nat) (x2_4 x3_4 : Int32), mX8_countBelow_L4 f_t_state x1_4 n x2_4 x3_4 = some (y2_4, y3_4) → ∀ ls : Array Slot, lv_has ls 4 [(0, .ref a_t), (1, .int x1_4), (2, .int x2_4), (3, .int x3_4)] → W p l e (headSpec wsX8_countBelow rmX8_countBelow).room s m args below meth c H [] 0 0 Q (F0 m 4 ls []) := by
  intro n
  induction n with
  | zero =>
    intro x2_4 x3_4 hm
    cases hm
  | succ n ih =>
    intro x2_4 x3_4 hm ls hl
    rw [mX8_countBelow_L4] at hm
    refine lv_iload_n hx hb dX8_countBelow_4 rfl (lv_at hl 3 rfl) ?_
    refine lv_aload_n hx hb dX8_countBelow_5 rfl (lv_at hl 0 rfl) ?_
    refine va_get (D := (dC, dI)) (ci := 7) (C := RX8) (T := TX8) (N := 12) hx hb hts iX8_countBelow_X8 hown hK hP 0 rfl rfl 1 (by decide) (hts _ (List.mem_of_getElem? (i := 1) rfl)) (fun _ h9 => h9) rfl dX8_countBelow_6 ?_
    refine lv_iconst (v := 1) hx hb dX8_countBelow_9 (by decide) ?_
    refine xa_ldK hx hb hK hP 1 0 rfl rfl 1 rfl (by decide) (by decide) dX8_countBelow_10 ?_
    refine lv_icmp_ge (tgt := 40) hx hb dX8_countBelow_11 (by decide) (fun c11 => ?_) (fun c11 => ?_)
    · rw [if_pos c11] at hm
      cases hm
      exact kk0 _ (lv_sub hl [0, 1, 2, 3] rfl)
    · rw [if_neg c11] at hm
      refine lv_iload_n hx hb dX8_countBelow_14 rfl (lv_at hl 2 rfl) ?_
      refine lv_iload_n hx hb dX8_countBelow_15 rfl (lv_at hl 1 rfl) ?_
      refine lv_aload_n hx hb dX8_countBelow_16 rfl (lv_at hl 0 rfl) ?_
      refine lv_iload_n hx hb dX8_countBelow_17 rfl (lv_at hl 3 rfl) ?_
      obtain ⟨r18, e18, hm⟩ := bs hm
      try dsimp only at hm
      refine ro_callVe ⟨hx, hb, hml, hown, hts⟩ (kX8_name l dC dI cA a_t a_t_state a_t_kept a_t_stack a_t_text v_t_thrown v_t_saved v_t_textLength v_t_place v_t_sign v_t_readLetters v_t_readLength v_t_readNumber f_t_state x3_4 r18 e18) (cwV 1 hts gX8_countBelow_X8_name rfl rfl rfl hdX8_name ⟨Nat.le_of_ble_eq_true rfl, Nat.le_of_ble_eq_true rfl⟩) (hP.sub [0, 1] rfl) hK rfl rfl rfl hl.1 rfl (Nat.le_of_ble_eq_true rfl) dX8_countBelow_18 ⟨Nat.zero_le _, Nat.zero_le _⟩ ?_
      refine sp_callSz ⟨hx, hb, hml, hown, hts⟩ (kX8_begins l x1_4 r18) (va_cwS 2 hts gX8_countBelow_X8_begins rfl rfl rfl hdX8_begins.2 ⟨Nat.le_of_ble_eq_true rfl, Nat.le_of_ble_eq_true rfl⟩) rfl hl.1 rfl (Nat.le_of_ble_eq_true rfl) dX8_countBelow_21 ⟨Nat.zero_le _, Nat.zero_le _⟩ (fun hb21 => ?_)
      refine lv_if_eq (tgt := 31) hx hb dX8_countBelow_24 (by decide) (fun c24 => ?_) (fun c24 => ?_)
      · try simp only [if_pos c24] at hm
        refine lv_iconst (v := 0) hx hb dX8_countBelow_31 (by decide) ?_
        refine lv_iadd hx hb dX8_countBelow_32 ?_
        refine lv_istore_n (lv' := [(2, .int (x2_4 + 0)), (0, .ref a_t), (1, .int x1_4), (3, .int x3_4)]) hx hb dX8_countBelow_33 rfl hl (by decide) rfl (fun ls hl => ?_)
        refine lv_iinc (v := (x3_4 + 1)) (lv' := [(3, .int (x3_4 + 1)), (2, .int (x2_4 + 0)), (0, .ref a_t), (1, .int x1_4)]) hx hb dX8_countBelow_34 hl (k := 3) rfl rfl (by decide) rfl (fun ls hl => ?_)
        refine lv_goto (tgt := 4) hx hb dX8_countBelow_37 (by decide) ?_
        exact ih _ _ hm _ (lv_sub hl [2, 3, 1, 0] rfl)
      · try simp only [if_neg c24] at hm
        refine lv_iconst (v := 1) hx hb dX8_countBelow_27 (by decide) ?_
        refine lv_goto (tgt := 32) hx hb dX8_countBelow_28 (by decide) ?_
        refine lv_iadd hx hb dX8_countBelow_32 ?_
        refine lv_istore_n (lv' := [(2, .int (x2_4 + 1)), (0, .ref a_t), (1, .int x1_4), (3, .int x3_4)]) hx hb dX8_countBelow_33 rfl hl (by decide) rfl (fun ls hl => ?_)
        refine lv_iinc (v := (x3_4 + 1)) (lv' := [(3, .int (x3_4 + 1)), (2, .int (x2_4 + 1)), (0, .ref a_t), (1, .int x1_4)]) hx hb dX8_countBelow_34 hl (k := 3) rfl rfl (by decide) rfl (fun ls hl => ?_)
        refine lv_goto (tgt := 4) hx hb dX8_countBelow_37 (by decide) ?_
        exact ih _ _ hm _ (lv_sub hl [2, 3, 1, 0] rfl)
set_option maxHeartbeats 4000000 in
set_option maxRecDepth 100000 in
theorem kX8_countBelow (l : Launch) (dC : Nat → ClassId) (dI : Nat → Nat → Nat) (cA : ClassId) (a_t a_t_state a_t_kept a_t_stack a_t_text : Nat) (v_t_thrown v_t_saved v_t_textLength v_t_place v_t_sign v_t_readLetters v_t_readLength v_t_readNumber : Int32) (f_t_state : Nat → Int32) (p1 r : Int32) (hm : (mX8_countBelow f_t_state p1) = some r) : Met l yX8_countBelow wsX8_countBelow rmX8_countBelow (rpc (dC, dI) [(cA, .int)] (wX8_countBelow cA a_t a_t_state a_t_kept a_t_stack a_t_text v_t_thrown v_t_saved v_t_textLength v_t_place v_t_sign v_t_readLetters v_t_readLength v_t_readNumber f_t_state) [.ref a_t, .int p1]) (vp_Si (fun x => x = r)) 0 0 (fun _ => False) := by
  unfold mX8_countBelow at hm
  refine ro_ofW (cc := cX8_countBelow) (maxL := 4) (ret := (some .int)) (own := RX8) (by decide) rfl rfl (Nat.le_of_ble_eq_true rfl) ?_
  intro p e s m args below meth c hx hb hr hts hown hlocks hml hP hK ls hl
  have hl : lv_has ls 4 [(0, .ref a_t), (1, .int p1)] := hl
  have hP : va_P (dC, dI) vwCl [(a_t, .inr (7, [.int v_t_thrown, .ref a_t_state, .ref a_t_kept, .ref a_t_stack, .int v_t_saved, .ref a_t_text, .int v_t_textLength, .int v_t_place, .int v_t_sign, .int v_t_readLetters, .int v_t_readLength, .int v_t_readNumber])), (a_t_state, .inl (cA, 255, .inl f_t_state))] s.heap := hP
  refine lv_iconst (v := 0) hx hb dX8_countBelow_0 (by decide) ?_
  refine lv_istore_n (lv' := [(2, .int 0), (0, .ref a_t), (1, .int p1)]) hx hb dX8_countBelow_1 rfl hl (by decide) rfl (fun ls hl => ?_)
  refine lv_iconst (v := 0) hx hb dX8_countBelow_2 (by decide) ?_
  refine lv_istore_n (lv' := [(3, .int 0), (2, .int 0), (0, .ref a_t), (1, .int p1)]) hx hb dX8_countBelow_3 rfl hl (by decide) rfl (fun ls hl => ?_)
  obtain ⟨⟨y2_4, y3_4⟩, e4, hm⟩ := bs hm
  try dsimp only at hm
  refine wX8_countBelow_L4 dC dI cA a_t a_t_state a_t_kept a_t_stack a_t_text v_t_thrown v_t_saved v_t_textLength v_t_place v_t_sign v_t_readLetters v_t_readLength v_t_readNumber f_t_state p1 p1 y2_4 y3_4 hx hb hml hown hts hK (hP.sub [0, 1] rfl) ?_ FU _ _ e4 _ (lv_sub hl [2, 3, 1, 0] rfl)
  · intro ls hl
    refine lv_iload_n hx hb dX8_countBelow_40 rfl (lv_at hl 2 rfl) ?_
    cases hm
    exact ro_iret hx hb hr rfl rfl dX8_countBelow_41 hlocks
def mX8_weightBelow_L4 (f_t_state : Nat → Int32) (x1_4 : Int32) : Nat → (Int32) → (Int32) → Option (Int32 × Int32)
  | 0, _, _ => none
  | n + 1, x2_4, x3_4 =>
    (if (f_t_state 1) ≤ x3_4 then
      some (x2_4, x3_4)
    else
      ((mX8_name f_t_state x3_4).bind fun r18 =>
      (if (mX8_begins x1_4 r18) = 0 then
        mX8_weightBelow_L4 f_t_state x1_4 n (x2_4 + 0) (x3_4 + 1)
      else
        ((rdA 255 f_t_state (31 + x3_4)).bind fun r35 =>
        mX8_weightBelow_L4 f_t_state x1_4 n (x2_4 + r35) (x3_4 + 1)))))
def mX8_weightBelow (f_t_state : Nat → Int32) (p1 : Int32) : Option (Int32) :=
  ((mX8_weightBelow_L4 f_t_state p1 FU 0 0).bind fun (y2_4, y3_4) =>
  some y2_4)
abbrev rmX8_weightBelow : Room := { frames := 4, cells := 0, slots := 0, locals := 82 }
abbrev wX8_weightBelow (cA : ClassId) (a_t a_t_state a_t_kept a_t_stack a_t_text : Nat) (v_t_thrown v_t_saved v_t_textLength v_t_place v_t_sign v_t_readLetters v_t_readLength v_t_readNumber : Int32) (f_t_state : Nat → Int32) : va_W := [(a_t, .inr (7, [.int v_t_thrown, .ref a_t_state, .ref a_t_kept, .ref a_t_stack, .int v_t_saved, .ref a_t_text, .int v_t_textLength, .int v_t_place, .int v_t_sign, .int v_t_readLetters, .int v_t_readLength, .int v_t_readNumber])), (a_t_state, .inl (cA, 255, .inl f_t_state))]
theorem iX8_weightBelow_X8 : ∀ w ∈ wsX80, w ∈ wsX8_weightBelow := (fun _ h => List.mem_cons_of_mem _ (List.mem_append_right _ h))
theorem hdX8_weightBelow : yX8_weightBelow.cls = RX8 ∧ yX8_weightBelow.cls ≠ "java/lang/invoke/MethodHandle" ∧ yX8_weightBelow.cls ≠ "java/lang/invoke/VarHandle" ∧ (parseMethodDescriptor yX8_weightBelow.desc).map (fun d => d.parameters.length) = some 1 := by decide +kernel
set_option maxHeartbeats 4000000 in
set_option maxRecDepth 100000 in
theorem wX8_weightBelow_L4 {p : Program} {l : Launch} {e : Env} {s : State} {m : MethodId} {args : Array Value} {below : List Frame} {meth : Method} {c : Code} {Q : State → Prop} {H : Heap} (dC : Nat → ClassId) (dI : Nat → Nat → Nat) (cA : ClassId) (a_t a_t_state a_t_kept a_t_stack a_t_text : Nat) (v_t_thrown v_t_saved v_t_textLength v_t_place v_t_sign v_t_readLetters v_t_readLength v_t_readNumber : Int32) (f_t_state : Nat → Int32) (p1 x1_4 y2_4 y3_4 : Int32) (hx : p.tables.exec = Jvm.exec) (hb : c.code = cX8_weightBelow) (hml : c.maxLocals = 4) (hown : s.vm.findClass RX8 = some m.cls) (hts : ∀ w ∈ wsX8_weightBelow, w.before args s = true) (hK : va_K (dC, dI) vwCl [(cA, .int)] s) (hP : va_P (dC, dI) vwCl [(a_t, .inr (7, [.int v_t_thrown, .ref a_t_state, .ref a_t_kept, .ref a_t_stack, .int v_t_saved, .ref a_t_text, .int v_t_textLength, .int v_t_place, .int v_t_sign, .int v_t_readLetters, .int v_t_readLength, .int v_t_readNumber])), (a_t_state, .inl (cA, 255, .inl f_t_state))] H)
    (kk0 : ∀ ls : Array Slot, lv_has ls 4 [(0, .ref a_t), (1, .int x1_4), (2, .int y2_4), (3, .int y3_4)] → W p l e (headSpec wsX8_weightBelow rmX8_weightBelow).room s m args below meth c H [] 0 0 Q (F0 m 48 ls [])) :
    ∀ (n : Nat) (x2_4 x3_4 : Int32), mX8_weightBelow_L4 f_t_state x1_4 n x2_4 x3_4 = some (y2_4, y3_4) → ∀ ls : Array Slot, lv_has ls 4 [(0, .ref a_t), (1, .int x1_4), (2, .int x2_4), (3, .int x3_4)] → W p l e (headSpec wsX8_weightBelow rmX8_weightBelow).room s m args below meth c H [] 0 0 Q (F0 m 4 ls []) := by
  intro n
  induction n with
  | zero =>
    intro x2_4 x3_4 hm
    cases hm
  | succ n ih =>
    intro x2_4 x3_4 hm ls hl
    rw [mX8_weightBelow_L4] at hm
    refine lv_iload_n hx hb dX8_weightBelow_4 rfl (lv_at hl 3 rfl) ?_
    refine lv_aload_n hx hb dX8_weightBelow_5 rfl (lv_at hl 0 rfl) ?_
    refine va_get (D := (dC, dI)) (ci := 7) (C := RX8) (T := TX8) (N := 12) hx hb hts iX8_weightBelow_X8 hown hK hP 0 rfl rfl 1 (by decide) (hts _ (List.mem_of_getElem? (i := 1) rfl)) (fun _ h9 => h9) rfl dX8_weightBelow_6 ?_
    refine lv_iconst (v := 1) hx hb dX8_weightBelow_9 (by decide) ?_
    refine xa_ldK hx hb hK hP 1 0 rfl rfl 1 rfl (by decide) (by decide) dX8_weightBelow_10 ?_
    refine lv_icmp_ge (tgt := 48) hx hb dX8_weightBelow_11 (by decide) (fun c11 => ?_) (fun c11 => ?_)
    · rw [if_pos c11] at hm
      cases hm
      exact kk0 _ (lv_sub hl [0, 1, 2, 3] rfl)
    · rw [if_neg c11] at hm
      refine lv_iload_n hx hb dX8_weightBelow_14 rfl (lv_at hl 2 rfl) ?_
      refine lv_iload_n hx hb dX8_weightBelow_15 rfl (lv_at hl 1 rfl) ?_
      refine lv_aload_n hx hb dX8_weightBelow_16 rfl (lv_at hl 0 rfl) ?_
      refine lv_iload_n hx hb dX8_weightBelow_17 rfl (lv_at hl 3 rfl) ?_
      obtain ⟨r18, e18, hm⟩ := bs hm
      try dsimp only at hm
      refine ro_callVe ⟨hx, hb, hml, hown, hts⟩ (kX8_name l dC dI cA a_t a_t_state a_t_kept a_t_stack a_t_text v_t_thrown v_t_saved v_t_textLength v_t_place v_t_sign v_t_readLetters v_t_readLength v_t_readNumber f_t_state x3_4 r18 e18) (cwV 1 hts gX8_weightBelow_X8_name rfl rfl rfl hdX8_name ⟨Nat.le_of_ble_eq_true rfl, Nat.le_of_ble_eq_true rfl⟩) (hP.sub [0, 1] rfl) hK rfl rfl rfl hl.1 rfl (Nat.le_of_ble_eq_true rfl) dX8_weightBelow_18 ⟨Nat.zero_le _, Nat.zero_le _⟩ ?_
      refine sp_callSz ⟨hx, hb, hml, hown, hts⟩ (kX8_begins l x1_4 r18) (va_cwS 2 hts gX8_weightBelow_X8_begins rfl rfl rfl hdX8_begins.2 ⟨Nat.le_of_ble_eq_true rfl, Nat.le_of_ble_eq_true rfl⟩) rfl hl.1 rfl (Nat.le_of_ble_eq_true rfl) dX8_weightBelow_21 ⟨Nat.zero_le _, Nat.zero_le _⟩ (fun hb21 => ?_)
      refine lv_if_eq (tgt := 39) hx hb dX8_weightBelow_24 (by decide) (fun c24 => ?_) (fun c24 => ?_)
      · rw [if_pos c24] at hm
        refine lv_iconst (v := 0) hx hb dX8_weightBelow_39 (by decide) ?_
        refine lv_iadd hx hb dX8_weightBelow_40 ?_
        refine lv_istore_n (lv' := [(2, .int (x2_4 + 0)), (0, .ref a_t), (1, .int x1_4), (3, .int x3_4)]) hx hb dX8_weightBelow_41 rfl hl (by decide) rfl (fun ls hl => ?_)
        refine lv_iinc (v := (x3_4 + 1)) (lv' := [(3, .int (x3_4 + 1)), (2, .int (x2_4 + 0)), (0, .ref a_t), (1, .int x1_4)]) hx hb dX8_weightBelow_42 hl (k := 3) rfl rfl (by decide) rfl (fun ls hl => ?_)
        refine lv_goto (tgt := 4) hx hb dX8_weightBelow_45 (by decide) ?_
        exact ih _ _ hm _ (lv_sub hl [2, 3, 1, 0] rfl)
      · rw [if_neg c24] at hm
        refine lv_aload_n hx hb dX8_weightBelow_27 rfl (lv_at hl 0 rfl) ?_
        refine va_get (D := (dC, dI)) (ci := 7) (C := RX8) (T := TX8) (N := 12) hx hb hts iX8_weightBelow_X8 hown hK hP 0 rfl rfl 1 (by decide) (hts _ (List.mem_of_getElem? (i := 1) rfl)) (fun _ h9 => h9) rfl dX8_weightBelow_28 ?_
        refine lv_bipush (v := 31) hx hb dX8_weightBelow_31 (by decide) ?_
        refine lv_iload_n hx hb dX8_weightBelow_33 rfl (lv_at hl 3 rfl) ?_
        refine lv_iadd hx hb dX8_weightBelow_34 ?_
        obtain ⟨r35, e35, hm⟩ := bs hm
        try dsimp only at hm
        refine xa_ldO hx hb hK hP 1 0 rfl rfl e35 dX8_weightBelow_35 ?_
        refine lv_goto (tgt := 40) hx hb dX8_weightBelow_36 (by decide) ?_
        refine lv_iadd hx hb dX8_weightBelow_40 ?_
        refine lv_istore_n (lv' := [(2, .int (x2_4 + r35)), (0, .ref a_t), (1, .int x1_4), (3, .int x3_4)]) hx hb dX8_weightBelow_41 rfl hl (by decide) rfl (fun ls hl => ?_)
        refine lv_iinc (v := (x3_4 + 1)) (lv' := [(3, .int (x3_4 + 1)), (2, .int (x2_4 + r35)), (0, .ref a_t), (1, .int x1_4)]) hx hb dX8_weightBelow_42 hl (k := 3) rfl rfl (by decide) rfl (fun ls hl => ?_)
        refine lv_goto (tgt := 4) hx hb dX8_weightBelow_45 (by decide) ?_
        exact ih _ _ hm _ (lv_sub hl [2, 3, 1, 0] rfl)
set_option maxHeartbeats 4000000 in
set_option maxRecDepth 100000 in
theorem kX8_weightBelow (l : Launch) (dC : Nat → ClassId) (dI : Nat → Nat → Nat) (cA : ClassId) (a_t a_t_state a_t_kept a_t_stack a_t_text : Nat) (v_t_thrown v_t_saved v_t_textLength v_t_place v_t_sign v_t_readLetters v_t_readLength v_t_readNumber : Int32) (f_t_state : Nat → Int32) (p1 r : Int32) (hm : (mX8_weightBelow f_t_state p1) = some r) : Met l yX8_weightBelow wsX8_weightBelow rmX8_weightBelow (rpc (dC, dI) [(cA, .int)] (wX8_weightBelow cA a_t a_t_state a_t_kept a_t_stack a_t_text v_t_thrown v_t_saved v_t_textLength v_t_place v_t_sign v_t_readLetters v_t_readLength v_t_readNumber f_t_state) [.ref a_t, .int p1]) (vp_Si (fun x => x = r)) 0 0 (fun _ => False) := by
  unfold mX8_weightBelow at hm
  refine ro_ofW (cc := cX8_weightBelow) (maxL := 4) (ret := (some .int)) (own := RX8) (by decide) rfl rfl (Nat.le_of_ble_eq_true rfl) ?_
  intro p e s m args below meth c hx hb hr hts hown hlocks hml hP hK ls hl
  have hl : lv_has ls 4 [(0, .ref a_t), (1, .int p1)] := hl
  have hP : va_P (dC, dI) vwCl [(a_t, .inr (7, [.int v_t_thrown, .ref a_t_state, .ref a_t_kept, .ref a_t_stack, .int v_t_saved, .ref a_t_text, .int v_t_textLength, .int v_t_place, .int v_t_sign, .int v_t_readLetters, .int v_t_readLength, .int v_t_readNumber])), (a_t_state, .inl (cA, 255, .inl f_t_state))] s.heap := hP
  refine lv_iconst (v := 0) hx hb dX8_weightBelow_0 (by decide) ?_
  refine lv_istore_n (lv' := [(2, .int 0), (0, .ref a_t), (1, .int p1)]) hx hb dX8_weightBelow_1 rfl hl (by decide) rfl (fun ls hl => ?_)
  refine lv_iconst (v := 0) hx hb dX8_weightBelow_2 (by decide) ?_
  refine lv_istore_n (lv' := [(3, .int 0), (2, .int 0), (0, .ref a_t), (1, .int p1)]) hx hb dX8_weightBelow_3 rfl hl (by decide) rfl (fun ls hl => ?_)
  obtain ⟨⟨y2_4, y3_4⟩, e4, hm⟩ := bs hm
  try dsimp only at hm
  refine wX8_weightBelow_L4 dC dI cA a_t a_t_state a_t_kept a_t_stack a_t_text v_t_thrown v_t_saved v_t_textLength v_t_place v_t_sign v_t_readLetters v_t_readLength v_t_readNumber f_t_state p1 p1 y2_4 y3_4 hx hb hml hown hts hK (hP.sub [0, 1] rfl) ?_ FU _ _ e4 _ (lv_sub hl [2, 3, 1, 0] rfl)
  · intro ls hl
    refine lv_iload_n hx hb dX8_weightBelow_48 rfl (lv_at hl 2 rfl) ?_
    cases hm
    exact ro_iret hx hb hr rfl rfl dX8_weightBelow_49 hlocks
def mX8_isInTown (f_t_state : Nat → Int32) (p1 : Int32) : Option (Int32) :=
  (if (mX8_lengthOf p1) = 0 then
    some 1
  else
    ((mX8_countBelow f_t_state p1).bind fun r9 =>
    some (if r9 ≤ 0 then (0 : Int32) else 1)))
abbrev rmX8_isInTown : Room := { frames := 5, cells := 0, slots := 0, locals := 105 }
abbrev wX8_isInTown (cA : ClassId) (a_t a_t_state a_t_kept a_t_stack a_t_text : Nat) (v_t_thrown v_t_saved v_t_textLength v_t_place v_t_sign v_t_readLetters v_t_readLength v_t_readNumber : Int32) (f_t_state : Nat → Int32) : va_W := [(a_t, .inr (7, [.int v_t_thrown, .ref a_t_state, .ref a_t_kept, .ref a_t_stack, .int v_t_saved, .ref a_t_text, .int v_t_textLength, .int v_t_place, .int v_t_sign, .int v_t_readLetters, .int v_t_readLength, .int v_t_readNumber])), (a_t_state, .inl (cA, 255, .inl f_t_state))]
theorem hdX8_isInTown : yX8_isInTown.cls = RX8 ∧ yX8_isInTown.cls ≠ "java/lang/invoke/MethodHandle" ∧ yX8_isInTown.cls ≠ "java/lang/invoke/VarHandle" ∧ (parseMethodDescriptor yX8_isInTown.desc).map (fun d => d.parameters.length) = some 1 := by decide +kernel
set_option maxHeartbeats 4000000 in
set_option maxRecDepth 100000 in
theorem kX8_isInTown (l : Launch) (dC : Nat → ClassId) (dI : Nat → Nat → Nat) (cA : ClassId) (a_t a_t_state a_t_kept a_t_stack a_t_text : Nat) (v_t_thrown v_t_saved v_t_textLength v_t_place v_t_sign v_t_readLetters v_t_readLength v_t_readNumber : Int32) (f_t_state : Nat → Int32) (p1 r : Int32) (hm : (mX8_isInTown f_t_state p1) = some r) : Met l yX8_isInTown wsX8_isInTown rmX8_isInTown (rpc (dC, dI) [(cA, .int)] (wX8_isInTown cA a_t a_t_state a_t_kept a_t_stack a_t_text v_t_thrown v_t_saved v_t_textLength v_t_place v_t_sign v_t_readLetters v_t_readLength v_t_readNumber f_t_state) [.ref a_t, .int p1]) (vp_Si (fun x => x = r ∧ nbr r)) 0 0 (fun _ => False) := by
  unfold mX8_isInTown at hm
  refine ro_ofW (cc := cX8_isInTown) (maxL := 2) (ret := (some .boolean)) (own := RX8) (by decide) rfl rfl (Nat.le_of_ble_eq_true rfl) ?_
  intro p e s m args below meth c hx hb hr hts hown hlocks hml hP hK ls hl
  have hl : lv_has ls 2 [(0, .ref a_t), (1, .int p1)] := hl
  have hP : va_P (dC, dI) vwCl [(a_t, .inr (7, [.int v_t_thrown, .ref a_t_state, .ref a_t_kept, .ref a_t_stack, .int v_t_saved, .ref a_t_text, .int v_t_textLength, .int v_t_place, .int v_t_sign, .int v_t_readLetters, .int v_t_readLength, .int v_t_readNumber])), (a_t_state, .inl (cA, 255, .inl f_t_state))] s.heap := hP
  refine lv_iload_n hx hb dX8_isInTown_0 rfl (lv_at hl 1 rfl) ?_
  refine sp_callSe ⟨hx, hb, hml, hown, hts⟩ (kX8_lengthOf l p1) (va_cwS 1 hts gX8_isInTown_X8_lengthOf rfl rfl rfl hdX8_lengthOf.2 ⟨Nat.le_of_ble_eq_true rfl, Nat.le_of_ble_eq_true rfl⟩) rfl hl.1 rfl (Nat.le_of_ble_eq_true rfl) dX8_isInTown_1 ⟨Nat.zero_le _, Nat.zero_le _⟩ ?_
  refine lv_if_eq (tgt := 15) hx hb dX8_isInTown_4 (by decide) (fun c4 => ?_) (fun c4 => ?_)
  · rw [if_pos c4] at hm
    refine lv_iconst (v := 1) hx hb dX8_isInTown_15 (by decide) ?_
    refine lv_goto (tgt := 20) hx hb dX8_isInTown_16 (by decide) ?_
    cases hm
    exact ro_iret hx hb hr rfl ⟨rfl, rfl⟩ dX8_isInTown_20 hlocks
  · rw [if_neg c4] at hm
    refine lv_aload_n hx hb dX8_isInTown_7 rfl (lv_at hl 0 rfl) ?_
    refine lv_iload_n hx hb dX8_isInTown_8 rfl (lv_at hl 1 rfl) ?_
    obtain ⟨r9, e9, hm⟩ := bs hm
    try dsimp only at hm
    refine ro_callVe ⟨hx, hb, hml, hown, hts⟩ (kX8_countBelow l dC dI cA a_t a_t_state a_t_kept a_t_stack a_t_text v_t_thrown v_t_saved v_t_textLength v_t_place v_t_sign v_t_readLetters v_t_readLength v_t_readNumber f_t_state p1 r9 e9) (cwV 1 hts gX8_isInTown_X8_countBelow rfl rfl rfl hdX8_countBelow ⟨Nat.le_of_ble_eq_true rfl, Nat.le_of_ble_eq_true rfl⟩) (hP.sub [0, 1] rfl) hK rfl rfl rfl hl.1 rfl (Nat.le_of_ble_eq_true rfl) dX8_isInTown_9 ⟨Nat.zero_le _, Nat.zero_le _⟩ ?_
    refine lv_if_le (tgt := 19) hx hb dX8_isInTown_12 (by decide) (fun c12 => ?_) (fun c12 => ?_)
    · try simp only [if_pos c12] at hm
      refine lv_iconst (v := 0) hx hb dX8_isInTown_19 (by decide) ?_
      cases hm
      exact ro_iret hx hb hr rfl ⟨rfl, rfl⟩ dX8_isInTown_20 hlocks
    · try simp only [if_neg c12] at hm
      refine lv_iconst (v := 1) hx hb dX8_isInTown_15 (by decide) ?_
      refine lv_goto (tgt := 20) hx hb dX8_isInTown_16 (by decide) ?_
      cases hm
      exact ro_iret hx hb hr rfl ⟨rfl, rfl⟩ dX8_isInTown_20 hlocks
def mX8_findHouse_L4 (f_t_state : Nat → Int32) (x1_4 : Int32) : Nat → (Int32) → (Int32) → Option (Int32 × Int32)
  | 0, _, _ => none
  | n + 1, x2_4, x3_4 =>
    (if (f_t_state 2) ≤ x3_4 then
      some (x2_4, x3_4)
    else
      ((mX8_prefixOf f_t_state x3_4).bind fun r16 =>
      mX8_findHouse_L4 f_t_state x1_4 n (if r16 = x1_4 then x3_4 else x2_4) (x3_4 + 1)))
def mX8_findHouse (f_t_state : Nat → Int32) (p1 : Int32) : Option (Int32) :=
  ((mX8_findHouse_L4 f_t_state p1 FU (-1) 0).bind fun (y2_4, y3_4) =>
  some y2_4)
abbrev rmX8_findHouse : Room := { frames := 1, cells := 0, slots := 0, locals := 21 }
abbrev wX8_findHouse (cA : ClassId) (a_t a_t_state a_t_kept a_t_stack a_t_text : Nat) (v_t_thrown v_t_saved v_t_textLength v_t_place v_t_sign v_t_readLetters v_t_readLength v_t_readNumber : Int32) (f_t_state : Nat → Int32) : va_W := [(a_t, .inr (7, [.int v_t_thrown, .ref a_t_state, .ref a_t_kept, .ref a_t_stack, .int v_t_saved, .ref a_t_text, .int v_t_textLength, .int v_t_place, .int v_t_sign, .int v_t_readLetters, .int v_t_readLength, .int v_t_readNumber])), (a_t_state, .inl (cA, 255, .inl f_t_state))]
theorem iX8_findHouse_X8 : ∀ w ∈ wsX80, w ∈ wsX8_findHouse := (fun _ h => List.mem_cons_of_mem _ (List.mem_append_right _ h))
theorem hdX8_findHouse : yX8_findHouse.cls = RX8 ∧ yX8_findHouse.cls ≠ "java/lang/invoke/MethodHandle" ∧ yX8_findHouse.cls ≠ "java/lang/invoke/VarHandle" ∧ (parseMethodDescriptor yX8_findHouse.desc).map (fun d => d.parameters.length) = some 1 := by decide +kernel
set_option maxHeartbeats 4000000 in
set_option maxRecDepth 100000 in
theorem wX8_findHouse_L4 {p : Program} {l : Launch} {e : Env} {s : State} {m : MethodId} {args : Array Value} {below : List Frame} {meth : Method} {c : Code} {Q : State → Prop} {H : Heap} (dC : Nat → ClassId) (dI : Nat → Nat → Nat) (cA : ClassId) (a_t a_t_state a_t_kept a_t_stack a_t_text : Nat) (v_t_thrown v_t_saved v_t_textLength v_t_place v_t_sign v_t_readLetters v_t_readLength v_t_readNumber : Int32) (f_t_state : Nat → Int32) (p1 x1_4 y2_4 y3_4 : Int32) (hx : p.tables.exec = Jvm.exec) (hb : c.code = cX8_findHouse) (hml : c.maxLocals = 4) (hown : s.vm.findClass RX8 = some m.cls) (hts : ∀ w ∈ wsX8_findHouse, w.before args s = true) (hK : va_K (dC, dI) vwCl [(cA, .int)] s) (hP : va_P (dC, dI) vwCl [(a_t, .inr (7, [.int v_t_thrown, .ref a_t_state, .ref a_t_kept, .ref a_t_stack, .int v_t_saved, .ref a_t_text, .int v_t_textLength, .int v_t_place, .int v_t_sign, .int v_t_readLetters, .int v_t_readLength, .int v_t_readNumber])), (a_t_state, .inl (cA, 255, .inl f_t_state))] H)
    (kk0 : ∀ ls : Array Slot, lv_has ls 4 [(0, .ref a_t), (1, .int x1_4), (2, .int y2_4), (3, .int y3_4)] → W p l e (headSpec wsX8_findHouse rmX8_findHouse).room s m args below meth c H [] 0 0 Q (F0 m 35 ls [])) :
    ∀ (n : Nat) (x2_4 x3_4 : Int32), mX8_findHouse_L4 f_t_state x1_4 n x2_4 x3_4 = some (y2_4, y3_4) → ∀ ls : Array Slot, lv_has ls 4 [(0, .ref a_t), (1, .int x1_4), (2, .int x2_4), (3, .int x3_4)] → W p l e (headSpec wsX8_findHouse rmX8_findHouse).room s m args below meth c H [] 0 0 Q (F0 m 4 ls []) := by
  intro n
  induction n with
  | zero =>
    intro x2_4 x3_4 hm
    cases hm
  | succ n ih =>
    intro x2_4 x3_4 hm ls hl
    rw [mX8_findHouse_L4] at hm
    refine lv_iload_n hx hb dX8_findHouse_4 rfl (lv_at hl 3 rfl) ?_
    refine lv_aload_n hx hb dX8_findHouse_5 rfl (lv_at hl 0 rfl) ?_
    refine va_get (D := (dC, dI)) (ci := 7) (C := RX8) (T := TX8) (N := 12) hx hb hts iX8_findHouse_X8 hown hK hP 0 rfl rfl 1 (by decide) (hts _ (List.mem_of_getElem? (i := 1) rfl)) (fun _ h9 => h9) rfl dX8_findHouse_6 ?_
    refine lv_iconst (v := 2) hx hb dX8_findHouse_9 (by decide) ?_
    refine xa_ldK hx hb hK hP 1 0 rfl rfl 2 rfl (by decide) (by decide) dX8_findHouse_10 ?_
    refine lv_icmp_ge (tgt := 35) hx hb dX8_findHouse_11 (by decide) (fun c11 => ?_) (fun c11 => ?_)
    · rw [if_pos c11] at hm
      cases hm
      exact kk0 _ (lv_sub hl [0, 1, 2, 3] rfl)
    · rw [if_neg c11] at hm
      refine lv_aload_n hx hb dX8_findHouse_14 rfl (lv_at hl 0 rfl) ?_
      refine lv_iload_n hx hb dX8_findHouse_15 rfl (lv_at hl 3 rfl) ?_
      obtain ⟨r16, e16, hm⟩ := bs hm
      try dsimp only at hm
      refine ro_callVe ⟨hx, hb, hml, hown, hts⟩ (kX8_prefixOf l dC dI cA a_t a_t_state a_t_kept a_t_stack a_t_text v_t_thrown v_t_saved v_t_textLength v_t_place v_t_sign v_t_readLetters v_t_readLength v_t_readNumber f_t_state x3_4 r16 e16) (cwV 1 hts gX8_findHouse_X8_prefixOf rfl rfl rfl hdX8_prefixOf ⟨Nat.le_of_ble_eq_true rfl, Nat.le_of_ble_eq_true rfl⟩) (hP.sub [0, 1] rfl) hK rfl rfl rfl hl.1 rfl (Nat.le_of_ble_eq_true rfl) dX8_findHouse_16 ⟨Nat.zero_le _, Nat.zero_le _⟩ ?_
      refine lv_iload_n hx hb dX8_findHouse_19 rfl (lv_at hl 1 rfl) ?_
      refine lv_icmp_ne (tgt := 27) hx hb dX8_findHouse_20 (by decide) (fun c20 => ?_) (fun c20 => ?_)
      · try simp only [if_neg c20] at hm
        refine lv_iload_n hx hb dX8_findHouse_27 rfl (lv_at hl 2 rfl) ?_
        refine lv_istore_n (lv' := [(2, .int x2_4), (0, .ref a_t), (1, .int x1_4), (3, .int x3_4)]) hx hb dX8_findHouse_28 rfl hl (by decide) rfl (fun ls hl => ?_)
        refine lv_iinc (v := (x3_4 + 1)) (lv' := [(3, .int (x3_4 + 1)), (2, .int x2_4), (0, .ref a_t), (1, .int x1_4)]) hx hb dX8_findHouse_29 hl (k := 3) rfl rfl (by decide) rfl (fun ls hl => ?_)
        refine lv_goto (tgt := 4) hx hb dX8_findHouse_32 (by decide) ?_
        exact ih _ _ hm _ (lv_sub hl [2, 3, 1, 0] rfl)
      · try simp only [if_pos c20] at hm
        refine lv_iload_n hx hb dX8_findHouse_23 rfl (lv_at hl 3 rfl) ?_
        refine lv_goto (tgt := 28) hx hb dX8_findHouse_24 (by decide) ?_
        refine lv_istore_n (lv' := [(2, .int x3_4), (0, .ref a_t), (1, .int x1_4), (3, .int x3_4)]) hx hb dX8_findHouse_28 rfl hl (by decide) rfl (fun ls hl => ?_)
        refine lv_iinc (v := (x3_4 + 1)) (lv' := [(3, .int (x3_4 + 1)), (2, .int x3_4), (0, .ref a_t), (1, .int x1_4)]) hx hb dX8_findHouse_29 hl (k := 3) rfl rfl (by decide) rfl (fun ls hl => ?_)
        refine lv_goto (tgt := 4) hx hb dX8_findHouse_32 (by decide) ?_
        exact ih _ _ hm _ (lv_sub hl [2, 3, 1, 0] rfl)
set_option maxHeartbeats 4000000 in
set_option maxRecDepth 100000 in
theorem kX8_findHouse (l : Launch) (dC : Nat → ClassId) (dI : Nat → Nat → Nat) (cA : ClassId) (a_t a_t_state a_t_kept a_t_stack a_t_text : Nat) (v_t_thrown v_t_saved v_t_textLength v_t_place v_t_sign v_t_readLetters v_t_readLength v_t_readNumber : Int32) (f_t_state : Nat → Int32) (p1 r : Int32) (hm : (mX8_findHouse f_t_state p1) = some r) : Met l yX8_findHouse wsX8_findHouse rmX8_findHouse (rpc (dC, dI) [(cA, .int)] (wX8_findHouse cA a_t a_t_state a_t_kept a_t_stack a_t_text v_t_thrown v_t_saved v_t_textLength v_t_place v_t_sign v_t_readLetters v_t_readLength v_t_readNumber f_t_state) [.ref a_t, .int p1]) (vp_Si (fun x => x = r)) 0 0 (fun _ => False) := by
  unfold mX8_findHouse at hm
  refine ro_ofW (cc := cX8_findHouse) (maxL := 4) (ret := (some .int)) (own := RX8) (by decide) rfl rfl (Nat.le_of_ble_eq_true rfl) ?_
  intro p e s m args below meth c hx hb hr hts hown hlocks hml hP hK ls hl
  have hl : lv_has ls 4 [(0, .ref a_t), (1, .int p1)] := hl
  have hP : va_P (dC, dI) vwCl [(a_t, .inr (7, [.int v_t_thrown, .ref a_t_state, .ref a_t_kept, .ref a_t_stack, .int v_t_saved, .ref a_t_text, .int v_t_textLength, .int v_t_place, .int v_t_sign, .int v_t_readLetters, .int v_t_readLength, .int v_t_readNumber])), (a_t_state, .inl (cA, 255, .inl f_t_state))] s.heap := hP
  refine lv_iconst (v := (-1)) hx hb dX8_findHouse_0 (by decide) ?_
  refine lv_istore_n (lv' := [(2, .int (-1)), (0, .ref a_t), (1, .int p1)]) hx hb dX8_findHouse_1 rfl hl (by decide) rfl (fun ls hl => ?_)
  refine lv_iconst (v := 0) hx hb dX8_findHouse_2 (by decide) ?_
  refine lv_istore_n (lv' := [(3, .int 0), (2, .int (-1)), (0, .ref a_t), (1, .int p1)]) hx hb dX8_findHouse_3 rfl hl (by decide) rfl (fun ls hl => ?_)
  obtain ⟨⟨y2_4, y3_4⟩, e4, hm⟩ := bs hm
  try dsimp only at hm
  refine wX8_findHouse_L4 dC dI cA a_t a_t_state a_t_kept a_t_stack a_t_text v_t_thrown v_t_saved v_t_textLength v_t_place v_t_sign v_t_readLetters v_t_readLength v_t_readNumber f_t_state p1 p1 y2_4 y3_4 hx hb hml hown hts hK (hP.sub [0, 1] rfl) ?_ FU _ _ e4 _ (lv_sub hl [2, 3, 1, 0] rfl)
  · intro ls hl
    refine lv_iload_n hx hb dX8_findHouse_35 rfl (lv_at hl 2 rfl) ?_
    cases hm
    exact ro_iret hx hb hr rfl rfl dX8_findHouse_36 hlocks
def mX8_addHouse_L7 (x1_7 : Int32) : Nat → (Int32) → (Nat → Int32) → Option (Int32 × (Nat → Int32))
  | 0, _, _ => none
  | n + 1, x2_7, f_t_state_L7 =>
    ((mX8_prefixOf f_t_state_L7 (x2_7 - 1)).bind fun r11 =>
    (if r11 ≤ x1_7 then
      some (x2_7, f_t_state_L7)
    else
      ((mX8_prefixOf f_t_state_L7 (x2_7 - 1)).bind fun r30 =>
      ((wrA 255 f_t_state_L7 (55 + x2_7) r30).bind fun f_t_state_33 =>
      mX8_addHouse_L7 x1_7 n (x2_7 + (-1)) f_t_state_33))))
def mX8_addHouse (f_t_state : Nat → Int32) (p1 : Int32) : Option ((Nat → Int32)) :=
  ((mX8_addHouse_L7 p1 FU (f_t_state 2) f_t_state).bind fun (y2_7, f_t_state_E7) =>
  ((wrA 255 f_t_state_E7 (55 + y2_7) p1).bind fun f_t_state_49 =>
  some (upd f_t_state_49 2 ((f_t_state_49 2) + 1))))
abbrev rmX8_addHouse : Room := { frames := 1, cells := 0, slots := 0, locals := 21 }
abbrev wX8_addHouse (cA : ClassId) (a_t a_t_state a_t_kept a_t_stack a_t_text : Nat) (v_t_thrown v_t_saved v_t_textLength v_t_place v_t_sign v_t_readLetters v_t_readLength v_t_readNumber : Int32) (f_t_state : Nat → Int32) : va_W := [(a_t, .inr (7, [.int v_t_thrown, .ref a_t_state, .ref a_t_kept, .ref a_t_stack, .int v_t_saved, .ref a_t_text, .int v_t_textLength, .int v_t_place, .int v_t_sign, .int v_t_readLetters, .int v_t_readLength, .int v_t_readNumber])), (a_t_state, .inl (cA, 255, .inl f_t_state))]
theorem iX8_addHouse_X8 : ∀ w ∈ wsX80, w ∈ wsX8_addHouse := (fun _ h => List.mem_cons_of_mem _ (List.mem_append_right _ h))
theorem hdX8_addHouse : yX8_addHouse.cls = RX8 ∧ yX8_addHouse.cls ≠ "java/lang/invoke/MethodHandle" ∧ yX8_addHouse.cls ≠ "java/lang/invoke/VarHandle" ∧ (parseMethodDescriptor yX8_addHouse.desc).map (fun d => d.parameters.length) = some 1 := by decide +kernel
set_option maxHeartbeats 4000000 in
set_option maxRecDepth 100000 in
theorem wX8_addHouse_L7 {p : Program} {l : Launch} {e : Env} {s : State} {m : MethodId} {args : Array Value} {below : List Frame} {meth : Method} {c : Code} {Q : State → Prop} {A : Nat → Prop} (dC : Nat → ClassId) (dI : Nat → Nat → Nat) (cA : ClassId) (a_t a_t_state a_t_kept a_t_stack a_t_text : Nat) (v_t_thrown v_t_saved v_t_textLength v_t_place v_t_sign v_t_readLetters v_t_readLength v_t_readNumber p1 x1_7 y2_7 : Int32) (f_t_state_E7 : Nat → Int32) (hx : p.tables.exec = Jvm.exec) (hb : c.code = cX8_addHouse) (hml : c.maxLocals = 3) (hown : s.vm.findClass RX8 = some m.cls) (hts : ∀ w ∈ wsX8_addHouse, w.before args s = true) (hA : ∀ q, s.heap.size ≤ q → A q) (hK : va_K (dC, dI) vwCl [(cA, .int)] s)
    (kk0 : ∀ (H : Heap) (locs : List Loc), va_P (dC, dI) vwCl [(a_t, .inr (7, [.int v_t_thrown, .ref a_t_state, .ref a_t_kept, .ref a_t_stack, .int v_t_saved, .ref a_t_text, .int v_t_textLength, .int v_t_place, .int v_t_sign, .int v_t_readLetters, .int v_t_readLength, .int v_t_readNumber])), (a_t_state, .inl (cA, 255, .inl f_t_state_E7))] H → va_D A [(a_t, .inr (7, [.int v_t_thrown, .ref a_t_state, .ref a_t_kept, .ref a_t_stack, .int v_t_saved, .ref a_t_text, .int v_t_textLength, .int v_t_place, .int v_t_sign, .int v_t_readLetters, .int v_t_readLength, .int v_t_readNumber])), (a_t_state, .inl (cA, 255, .inl f_t_state_E7))] → va_S A s.heap H locs → ∀ ls : Array Slot, lv_has ls 3 [(0, .ref a_t), (1, .int x1_7), (2, .int y2_7)] → W p l e (headSpec wsX8_addHouse rmX8_addHouse).room s m args below meth c H locs 0 0 Q (F0 m 40 ls [])) :
    ∀ (n : Nat) (x2_7 : Int32) (f_t_state_L7 : Nat → Int32), mX8_addHouse_L7 x1_7 n x2_7 f_t_state_L7 = some (y2_7, f_t_state_E7) → ∀ (H : Heap) (locs : List Loc), va_P (dC, dI) vwCl [(a_t, .inr (7, [.int v_t_thrown, .ref a_t_state, .ref a_t_kept, .ref a_t_stack, .int v_t_saved, .ref a_t_text, .int v_t_textLength, .int v_t_place, .int v_t_sign, .int v_t_readLetters, .int v_t_readLength, .int v_t_readNumber])), (a_t_state, .inl (cA, 255, .inl f_t_state_L7))] H → va_D A [(a_t, .inr (7, [.int v_t_thrown, .ref a_t_state, .ref a_t_kept, .ref a_t_stack, .int v_t_saved, .ref a_t_text, .int v_t_textLength, .int v_t_place, .int v_t_sign, .int v_t_readLetters, .int v_t_readLength, .int v_t_readNumber])), (a_t_state, .inl (cA, 255, .inl f_t_state_L7))] → va_S A s.heap H locs → ∀ ls : Array Slot, lv_has ls 3 [(0, .ref a_t), (1, .int x1_7), (2, .int x2_7)] → W p l e (headSpec wsX8_addHouse rmX8_addHouse).room s m args below meth c H locs 0 0 Q (F0 m 7 ls []) := by
  intro n
  induction n with
  | zero =>
    intro x2_7 f_t_state_L7 hm
    cases hm
  | succ n ih =>
    intro x2_7 f_t_state_L7 hm H locs hP hD hS ls hl
    rw [mX8_addHouse_L7] at hm
    refine lv_aload_n hx hb dX8_addHouse_7 rfl (lv_at hl 0 rfl) ?_
    refine lv_iload_n hx hb dX8_addHouse_8 rfl (lv_at hl 2 rfl) ?_
    refine lv_iconst (v := 1) hx hb dX8_addHouse_9 (by decide) ?_
    refine lv_isub hx hb dX8_addHouse_10 ?_
    obtain ⟨r11, e11, hm⟩ := bs hm
    try dsimp only at hm
    refine ro_callVe ⟨hx, hb, hml, hown, hts⟩ (kX8_prefixOf l dC dI cA a_t a_t_state a_t_kept a_t_stack a_t_text v_t_thrown v_t_saved v_t_textLength v_t_place v_t_sign v_t_readLetters v_t_readLength v_t_readNumber f_t_state_L7 (x2_7 - 1) r11 e11) (cwV 1 hts gX8_addHouse_X8_prefixOf rfl rfl rfl hdX8_prefixOf ⟨Nat.le_of_ble_eq_true rfl, Nat.le_of_ble_eq_true rfl⟩) (hP.sub [0, 1] rfl) hK rfl rfl rfl hl.1 rfl (Nat.le_of_ble_eq_true rfl) dX8_addHouse_11 ⟨Nat.zero_le _, Nat.zero_le _⟩ ?_
    refine lv_iload_n hx hb dX8_addHouse_14 rfl (lv_at hl 1 rfl) ?_
    refine lv_icmp_le (tgt := 40) hx hb dX8_addHouse_15 (by decide) (fun c15 => ?_) (fun c15 => ?_)
    · rw [if_pos c15] at hm
      cases hm
      exact kk0 _ _ (hP.sub [0, 1] rfl) (hD.sub [0, 1] (by decide) rfl) hS _ (lv_sub hl [0, 1, 2] rfl)
    · rw [if_neg c15] at hm
      refine lv_aload_n hx hb dX8_addHouse_18 rfl (lv_at hl 0 rfl) ?_
      refine va_get (D := (dC, dI)) (ci := 7) (C := RX8) (T := TX8) (N := 12) hx hb hts iX8_addHouse_X8 hown hK hP 0 rfl rfl 1 (by decide) (hts _ (List.mem_of_getElem? (i := 1) rfl)) (fun _ h9 => h9) rfl dX8_addHouse_19 ?_
      refine lv_bipush (v := 55) hx hb dX8_addHouse_22 (by decide) ?_
      refine lv_iload_n hx hb dX8_addHouse_24 rfl (lv_at hl 2 rfl) ?_
      refine lv_iadd hx hb dX8_addHouse_25 ?_
      refine lv_aload_n hx hb dX8_addHouse_26 rfl (lv_at hl 0 rfl) ?_
      refine lv_iload_n hx hb dX8_addHouse_27 rfl (lv_at hl 2 rfl) ?_
      refine lv_iconst (v := 1) hx hb dX8_addHouse_28 (by decide) ?_
      refine lv_isub hx hb dX8_addHouse_29 ?_
      obtain ⟨r30, e30, hm⟩ := bs hm
      try dsimp only at hm
      refine ro_callVe ⟨hx, hb, hml, hown, hts⟩ (kX8_prefixOf l dC dI cA a_t a_t_state a_t_kept a_t_stack a_t_text v_t_thrown v_t_saved v_t_textLength v_t_place v_t_sign v_t_readLetters v_t_readLength v_t_readNumber f_t_state_L7 (x2_7 - 1) r30 e30) (cwV 1 hts gX8_addHouse_X8_prefixOf rfl rfl rfl hdX8_prefixOf ⟨Nat.le_of_ble_eq_true rfl, Nat.le_of_ble_eq_true rfl⟩) (hP.sub [0, 1] rfl) hK rfl rfl rfl hl.1 rfl (Nat.le_of_ble_eq_true rfl) dX8_addHouse_30 ⟨Nat.zero_le _, Nat.zero_le _⟩ ?_
      obtain ⟨f_t_state_33, e33, hm⟩ := bs hm
      try dsimp only at hm
      refine xa_stO hx hb hK hP hD hS 1 0 rfl rfl e33 dX8_addHouse_33 (fun H locs hP hD hS => ?_)
      have hP : va_P (dC, dI) vwCl [(a_t, .inr (7, [.int v_t_thrown, .ref a_t_state, .ref a_t_kept, .ref a_t_stack, .int v_t_saved, .ref a_t_text, .int v_t_textLength, .int v_t_place, .int v_t_sign, .int v_t_readLetters, .int v_t_readLength, .int v_t_readNumber])), (a_t_state, .inl (cA, 255, .inl f_t_state_33))] H := hP
      have hD : va_D A [(a_t, .inr (7, [.int v_t_thrown, .ref a_t_state, .ref a_t_kept, .ref a_t_stack, .int v_t_saved, .ref a_t_text, .int v_t_textLength, .int v_t_place, .int v_t_sign, .int v_t_readLetters, .int v_t_readLength, .int v_t_readNumber])), (a_t_state, .inl (cA, 255, .inl f_t_state_33))] := hD
      refine lv_iinc (v := (x2_7 + (-1))) (lv' := [(2, .int (x2_7 + (-1))), (0, .ref a_t), (1, .int x1_7)]) hx hb dX8_addHouse_34 hl (k := 2) rfl rfl (by decide) rfl (fun ls hl => ?_)
      refine lv_goto (tgt := 7) hx hb dX8_addHouse_37 (by decide) ?_
      exact ih _ _ hm _ _ (hP.sub [0, 1] rfl) (hD.sub [0, 1] (by decide) rfl) hS _ (lv_sub hl [1, 2, 0] rfl)
set_option maxHeartbeats 4000000 in
set_option maxRecDepth 100000 in
theorem kX8_addHouse (l : Launch) (dC : Nat → ClassId) (dI : Nat → Nat → Nat) (cA : ClassId) (a_t a_t_state a_t_kept a_t_stack a_t_text : Nat) (v_t_thrown v_t_saved v_t_textLength v_t_place v_t_sign v_t_readLetters v_t_readLength v_t_readNumber : Int32) (f_t_state : Nat → Int32) (p1 : Int32) (sz : Nat) (o_f_t_state : Nat → Int32) (hm : (mX8_addHouse f_t_state p1) = some o_f_t_state) : Met l yX8_addHouse wsX8_addHouse rmX8_addHouse (mpc (dC, dI) [(cA, .int)] (wX8_addHouse cA a_t a_t_state a_t_kept a_t_stack a_t_text v_t_thrown v_t_saved v_t_textLength v_t_place v_t_sign v_t_readLetters v_t_readLength v_t_readNumber f_t_state) [.ref a_t, .int p1] sz) (mqv (dC, dI) [(cA, .int)] (va_A (wX8_addHouse cA a_t a_t_state a_t_kept a_t_stack a_t_text v_t_thrown v_t_saved v_t_textLength v_t_place v_t_sign v_t_readLetters v_t_readLength v_t_readNumber f_t_state) sz) (wX8_addHouse cA a_t a_t_state a_t_kept a_t_stack a_t_text v_t_thrown v_t_saved v_t_textLength v_t_place v_t_sign v_t_readLetters v_t_readLength v_t_readNumber o_f_t_state)) 0 0 (va_A (wX8_addHouse cA a_t a_t_state a_t_kept a_t_stack a_t_text v_t_thrown v_t_saved v_t_textLength v_t_place v_t_sign v_t_readLetters v_t_readLength v_t_readNumber f_t_state) sz) := by
  unfold mX8_addHouse at hm
  refine mu_ofW (Qc := fun A => mqv (dC, dI) [(cA, .int)] A (wX8_addHouse cA a_t a_t_state a_t_kept a_t_stack a_t_text v_t_thrown v_t_saved v_t_textLength v_t_place v_t_sign v_t_readLetters v_t_readLength v_t_readNumber o_f_t_state)) (cc := cX8_addHouse) (maxL := 3) (ret := none) (own := RX8) (by decide) rfl rfl (Nat.le_of_ble_eq_true rfl) ?_
  intro p e s m args below meth c hx hb hr hts hown hlocks hml hin A hA hP hD hS hK ls hl
  have hl : lv_has ls 3 [(0, .ref a_t), (1, .int p1)] := hl
  have hP : va_P (dC, dI) vwCl [(a_t, .inr (7, [.int v_t_thrown, .ref a_t_state, .ref a_t_kept, .ref a_t_stack, .int v_t_saved, .ref a_t_text, .int v_t_textLength, .int v_t_place, .int v_t_sign, .int v_t_readLetters, .int v_t_readLength, .int v_t_readNumber])), (a_t_state, .inl (cA, 255, .inl f_t_state))] s.heap := hP
  have hD : va_D A [(a_t, .inr (7, [.int v_t_thrown, .ref a_t_state, .ref a_t_kept, .ref a_t_stack, .int v_t_saved, .ref a_t_text, .int v_t_textLength, .int v_t_place, .int v_t_sign, .int v_t_readLetters, .int v_t_readLength, .int v_t_readNumber])), (a_t_state, .inl (cA, 255, .inl f_t_state))] := hD
  refine lv_aload_n hx hb dX8_addHouse_0 rfl (lv_at hl 0 rfl) ?_
  refine va_get (D := (dC, dI)) (ci := 7) (C := RX8) (T := TX8) (N := 12) hx hb hts iX8_addHouse_X8 hown hK hP 0 rfl rfl 1 (by decide) (hts _ (List.mem_of_getElem? (i := 1) rfl)) (fun _ h9 => h9) rfl dX8_addHouse_1 ?_
  refine lv_iconst (v := 2) hx hb dX8_addHouse_4 (by decide) ?_
  refine xa_ldK hx hb hK hP 1 0 rfl rfl 2 rfl (by decide) (by decide) dX8_addHouse_5 ?_
  refine lv_istore_n (lv' := [(2, .int (f_t_state 2)), (0, .ref a_t), (1, .int p1)]) hx hb dX8_addHouse_6 rfl hl (by decide) rfl (fun ls hl => ?_)
  obtain ⟨⟨y2_7, f_t_state_E7⟩, e7, hm⟩ := bs hm
  try dsimp only at hm
  refine wX8_addHouse_L7 dC dI cA a_t a_t_state a_t_kept a_t_stack a_t_text v_t_thrown v_t_saved v_t_textLength v_t_place v_t_sign v_t_readLetters v_t_readLength v_t_readNumber p1 p1 y2_7 f_t_state_E7 hx hb hml hown hts hA hK ?_ FU _ _ e7 _ _ (hP.sub [0, 1] rfl) (hD.sub [0, 1] (by decide) rfl) hS _ (lv_sub hl [1, 2, 0] rfl)
  · intro H locs hP hD hS ls hl
    refine lv_aload_n hx hb dX8_addHouse_40 rfl (lv_at hl 0 rfl) ?_
    refine va_get (D := (dC, dI)) (ci := 7) (C := RX8) (T := TX8) (N := 12) hx hb hts iX8_addHouse_X8 hown hK hP 0 rfl rfl 1 (by decide) (hts _ (List.mem_of_getElem? (i := 1) rfl)) (fun _ h9 => h9) rfl dX8_addHouse_41 ?_
    refine lv_bipush (v := 55) hx hb dX8_addHouse_44 (by decide) ?_
    refine lv_iload_n hx hb dX8_addHouse_46 rfl (lv_at hl 2 rfl) ?_
    refine lv_iadd hx hb dX8_addHouse_47 ?_
    refine lv_iload_n hx hb dX8_addHouse_48 rfl (lv_at hl 1 rfl) ?_
    obtain ⟨f_t_state_49, e49, hm⟩ := bs hm
    try dsimp only at hm
    refine xa_stO hx hb hK hP hD hS 1 0 rfl rfl e49 dX8_addHouse_49 (fun H locs hP hD hS => ?_)
    have hP : va_P (dC, dI) vwCl [(a_t, .inr (7, [.int v_t_thrown, .ref a_t_state, .ref a_t_kept, .ref a_t_stack, .int v_t_saved, .ref a_t_text, .int v_t_textLength, .int v_t_place, .int v_t_sign, .int v_t_readLetters, .int v_t_readLength, .int v_t_readNumber])), (a_t_state, .inl (cA, 255, .inl f_t_state_49))] H := hP
    have hD : va_D A [(a_t, .inr (7, [.int v_t_thrown, .ref a_t_state, .ref a_t_kept, .ref a_t_stack, .int v_t_saved, .ref a_t_text, .int v_t_textLength, .int v_t_place, .int v_t_sign, .int v_t_readLetters, .int v_t_readLength, .int v_t_readNumber])), (a_t_state, .inl (cA, 255, .inl f_t_state_49))] := hD
    refine lv_aload_n hx hb dX8_addHouse_50 rfl (lv_at hl 0 rfl) ?_
    refine va_get (D := (dC, dI)) (ci := 7) (C := RX8) (T := TX8) (N := 12) hx hb hts iX8_addHouse_X8 hown hK hP 0 rfl rfl 1 (by decide) (hts _ (List.mem_of_getElem? (i := 1) rfl)) (fun _ h9 => h9) rfl dX8_addHouse_51 ?_
    refine lv_iconst (v := 2) hx hb dX8_addHouse_54 (by decide) ?_
    refine lv_dup2_11 hx hb dX8_addHouse_55 rfl rfl ?_
    refine xa_ldK hx hb hK hP 1 0 rfl rfl 2 rfl (by decide) (by decide) dX8_addHouse_56 ?_
    refine lv_iconst (v := 1) hx hb dX8_addHouse_57 (by decide) ?_
    refine lv_iadd hx hb dX8_addHouse_58 ?_
    refine xa_stK hx hb hK hP hD hS 1 0 rfl rfl 2 rfl (by decide) (by decide) dX8_addHouse_59 (fun H locs hP hD hS => ?_)
    have hP : va_P (dC, dI) vwCl [(a_t, .inr (7, [.int v_t_thrown, .ref a_t_state, .ref a_t_kept, .ref a_t_stack, .int v_t_saved, .ref a_t_text, .int v_t_textLength, .int v_t_place, .int v_t_sign, .int v_t_readLetters, .int v_t_readLength, .int v_t_readNumber])), (a_t_state, .inl (cA, 255, .inl (upd f_t_state_49 2 ((f_t_state_49 2) + 1))))] H := hP
    have hD : va_D A [(a_t, .inr (7, [.int v_t_thrown, .ref a_t_state, .ref a_t_kept, .ref a_t_stack, .int v_t_saved, .ref a_t_text, .int v_t_textLength, .int v_t_place, .int v_t_sign, .int v_t_readLetters, .int v_t_readLength, .int v_t_readNumber])), (a_t_state, .inl (cA, 255, .inl (upd f_t_state_49 2 ((f_t_state_49 2) + 1))))] := hD
    cases hm
    exact mu_vret hx hb hr hP hD hS hK [0, 1] rfl (by decide) dX8_addHouse_60 hlocks
def mX8_dropHouse_L2  : Nat → (Int32) → (Nat → Int32) → Option (Int32 × (Nat → Int32))
  | 0, _, _ => none
  | n + 1, x2_2, f_t_state_L2 =>
    (if (f_t_state_L2 2) ≤ (x2_2 + 1) then
      some (x2_2, f_t_state_L2)
    else
      ((mX8_prefixOf f_t_state_L2 (x2_2 + 1)).bind fun r26 =>
      ((wrA 255 f_t_state_L2 (55 + x2_2) r26).bind fun f_t_state_29 =>
      mX8_dropHouse_L2 n (x2_2 + 1) f_t_state_29)))
def mX8_dropHouse (f_t_state : Nat → Int32) (p1 : Int32) : Option ((Nat → Int32)) :=
  ((mX8_dropHouse_L2 FU p1 f_t_state).bind fun (y2_2, f_t_state_E2) =>
  some (upd f_t_state_E2 2 ((f_t_state_E2 2) - 1)))
abbrev rmX8_dropHouse : Room := { frames := 1, cells := 0, slots := 0, locals := 21 }
abbrev wX8_dropHouse (cA : ClassId) (a_t a_t_state a_t_kept a_t_stack a_t_text : Nat) (v_t_thrown v_t_saved v_t_textLength v_t_place v_t_sign v_t_readLetters v_t_readLength v_t_readNumber : Int32) (f_t_state : Nat → Int32) : va_W := [(a_t, .inr (7, [.int v_t_thrown, .ref a_t_state, .ref a_t_kept, .ref a_t_stack, .int v_t_saved, .ref a_t_text, .int v_t_textLength, .int v_t_place, .int v_t_sign, .int v_t_readLetters, .int v_t_readLength, .int v_t_readNumber])), (a_t_state, .inl (cA, 255, .inl f_t_state))]
theorem iX8_dropHouse_X8 : ∀ w ∈ wsX80, w ∈ wsX8_dropHouse := (fun _ h => List.mem_cons_of_mem _ (List.mem_append_right _ h))
theorem hdX8_dropHouse : yX8_dropHouse.cls = RX8 ∧ yX8_dropHouse.cls ≠ "java/lang/invoke/MethodHandle" ∧ yX8_dropHouse.cls ≠ "java/lang/invoke/VarHandle" ∧ (parseMethodDescriptor yX8_dropHouse.desc).map (fun d => d.parameters.length) = some 1 := by decide +kernel
set_option maxHeartbeats 4000000 in
set_option maxRecDepth 100000 in
theorem wX8_dropHouse_L2 {p : Program} {l : Launch} {e : Env} {s : State} {m : MethodId} {args : Array Value} {below : List Frame} {meth : Method} {c : Code} {Q : State → Prop} {A : Nat → Prop} (dC : Nat → ClassId) (dI : Nat → Nat → Nat) (cA : ClassId) (a_t a_t_state a_t_kept a_t_stack a_t_text : Nat) (v_t_thrown v_t_saved v_t_textLength v_t_place v_t_sign v_t_readLetters v_t_readLength v_t_readNumber p1 y2_2 : Int32) (f_t_state_E2 : Nat → Int32) (hx : p.tables.exec = Jvm.exec) (hb : c.code = cX8_dropHouse) (hml : c.maxLocals = 3) (hown : s.vm.findClass RX8 = some m.cls) (hts : ∀ w ∈ wsX8_dropHouse, w.before args s = true) (hA : ∀ q, s.heap.size ≤ q → A q) (hK : va_K (dC, dI) vwCl [(cA, .int)] s)
    (kk0 : ∀ (H : Heap) (locs : List Loc), va_P (dC, dI) vwCl [(a_t, .inr (7, [.int v_t_thrown, .ref a_t_state, .ref a_t_kept, .ref a_t_stack, .int v_t_saved, .ref a_t_text, .int v_t_textLength, .int v_t_place, .int v_t_sign, .int v_t_readLetters, .int v_t_readLength, .int v_t_readNumber])), (a_t_state, .inl (cA, 255, .inl f_t_state_E2))] H → va_D A [(a_t, .inr (7, [.int v_t_thrown, .ref a_t_state, .ref a_t_kept, .ref a_t_stack, .int v_t_saved, .ref a_t_text, .int v_t_textLength, .int v_t_place, .int v_t_sign, .int v_t_readLetters, .int v_t_readLength, .int v_t_readNumber])), (a_t_state, .inl (cA, 255, .inl f_t_state_E2))] → va_S A s.heap H locs → ∀ ls : Array Slot, lv_has ls 3 [(0, .ref a_t), (2, .int y2_2)] → W p l e (headSpec wsX8_dropHouse rmX8_dropHouse).room s m args below meth c H locs 0 0 Q (F0 m 36 ls [])) :
    ∀ (n : Nat) (x2_2 : Int32) (f_t_state_L2 : Nat → Int32), mX8_dropHouse_L2  n x2_2 f_t_state_L2 = some (y2_2, f_t_state_E2) → ∀ (H : Heap) (locs : List Loc), va_P (dC, dI) vwCl [(a_t, .inr (7, [.int v_t_thrown, .ref a_t_state, .ref a_t_kept, .ref a_t_stack, .int v_t_saved, .ref a_t_text, .int v_t_textLength, .int v_t_place, .int v_t_sign, .int v_t_readLetters, .int v_t_readLength, .int v_t_readNumber])), (a_t_state, .inl (cA, 255, .inl f_t_state_L2))] H → va_D A [(a_t, .inr (7, [.int v_t_thrown, .ref a_t_state, .ref a_t_kept, .ref a_t_stack, .int v_t_saved, .ref a_t_text, .int v_t_textLength, .int v_t_place, .int v_t_sign, .int v_t_readLetters, .int v_t_readLength, .int v_t_readNumber])), (a_t_state, .inl (cA, 255, .inl f_t_state_L2))] → va_S A s.heap H locs → ∀ ls : Array Slot, lv_has ls 3 [(0, .ref a_t), (2, .int x2_2)] → W p l e (headSpec wsX8_dropHouse rmX8_dropHouse).room s m args below meth c H locs 0 0 Q (F0 m 2 ls []) := by
  intro n
  induction n with
  | zero =>
    intro x2_2 f_t_state_L2 hm
    cases hm
  | succ n ih =>
    intro x2_2 f_t_state_L2 hm H locs hP hD hS ls hl
    rw [mX8_dropHouse_L2] at hm
    refine lv_iload_n hx hb dX8_dropHouse_2 rfl (lv_at hl 1 rfl) ?_
    refine lv_iconst (v := 1) hx hb dX8_dropHouse_3 (by decide) ?_
    refine lv_iadd hx hb dX8_dropHouse_4 ?_
    refine lv_aload_n hx hb dX8_dropHouse_5 rfl (lv_at hl 0 rfl) ?_
    refine va_get (D := (dC, dI)) (ci := 7) (C := RX8) (T := TX8) (N := 12) hx hb hts iX8_dropHouse_X8 hown hK hP 0 rfl rfl 1 (by decide) (hts _ (List.mem_of_getElem? (i := 1) rfl)) (fun _ h9 => h9) rfl dX8_dropHouse_6 ?_
    refine lv_iconst (v := 2) hx hb dX8_dropHouse_9 (by decide) ?_
    refine xa_ldK hx hb hK hP 1 0 rfl rfl 2 rfl (by decide) (by decide) dX8_dropHouse_10 ?_
    refine lv_icmp_ge (tgt := 36) hx hb dX8_dropHouse_11 (by decide) (fun c11 => ?_) (fun c11 => ?_)
    · rw [if_pos c11] at hm
      cases hm
      exact kk0 _ _ (hP.sub [0, 1] rfl) (hD.sub [0, 1] (by decide) rfl) hS _ (lv_sub hl [0, 1] rfl)
    · rw [if_neg c11] at hm
      refine lv_aload_n hx hb dX8_dropHouse_14 rfl (lv_at hl 0 rfl) ?_
      refine va_get (D := (dC, dI)) (ci := 7) (C := RX8) (T := TX8) (N := 12) hx hb hts iX8_dropHouse_X8 hown hK hP 0 rfl rfl 1 (by decide) (hts _ (List.mem_of_getElem? (i := 1) rfl)) (fun _ h9 => h9) rfl dX8_dropHouse_15 ?_
      refine lv_bipush (v := 55) hx hb dX8_dropHouse_18 (by decide) ?_
      refine lv_iload_n hx hb dX8_dropHouse_20 rfl (lv_at hl 1 rfl) ?_
      refine lv_iadd hx hb dX8_dropHouse_21 ?_
      refine lv_aload_n hx hb dX8_dropHouse_22 rfl (lv_at hl 0 rfl) ?_
      refine lv_iload_n hx hb dX8_dropHouse_23 rfl (lv_at hl 1 rfl) ?_
      refine lv_iconst (v := 1) hx hb dX8_dropHouse_24 (by decide) ?_
      refine lv_iadd hx hb dX8_dropHouse_25 ?_
      obtain ⟨r26, e26, hm⟩ := bs hm
      try dsimp only at hm
      refine ro_callVe ⟨hx, hb, hml, hown, hts⟩ (kX8_prefixOf l dC dI cA a_t a_t_state a_t_kept a_t_stack a_t_text v_t_thrown v_t_saved v_t_textLength v_t_place v_t_sign v_t_readLetters v_t_readLength v_t_readNumber f_t_state_L2 (x2_2 + 1) r26 e26) (cwV 1 hts gX8_dropHouse_X8_prefixOf rfl rfl rfl hdX8_prefixOf ⟨Nat.le_of_ble_eq_true rfl, Nat.le_of_ble_eq_true rfl⟩) (hP.sub [0, 1] rfl) hK rfl rfl rfl hl.1 rfl (Nat.le_of_ble_eq_true rfl) dX8_dropHouse_26 ⟨Nat.zero_le _, Nat.zero_le _⟩ ?_
      obtain ⟨f_t_state_29, e29, hm⟩ := bs hm
      try dsimp only at hm
      refine xa_stO hx hb hK hP hD hS 1 0 rfl rfl e29 dX8_dropHouse_29 (fun H locs hP hD hS => ?_)
      have hP : va_P (dC, dI) vwCl [(a_t, .inr (7, [.int v_t_thrown, .ref a_t_state, .ref a_t_kept, .ref a_t_stack, .int v_t_saved, .ref a_t_text, .int v_t_textLength, .int v_t_place, .int v_t_sign, .int v_t_readLetters, .int v_t_readLength, .int v_t_readNumber])), (a_t_state, .inl (cA, 255, .inl f_t_state_29))] H := hP
      have hD : va_D A [(a_t, .inr (7, [.int v_t_thrown, .ref a_t_state, .ref a_t_kept, .ref a_t_stack, .int v_t_saved, .ref a_t_text, .int v_t_textLength, .int v_t_place, .int v_t_sign, .int v_t_readLetters, .int v_t_readLength, .int v_t_readNumber])), (a_t_state, .inl (cA, 255, .inl f_t_state_29))] := hD
      refine lv_iinc (v := (x2_2 + 1)) (lv' := [(2, .int (x2_2 + 1)), (0, .ref a_t)]) hx hb dX8_dropHouse_30 hl (k := 1) rfl rfl (by decide) rfl (fun ls hl => ?_)
      refine lv_goto (tgt := 2) hx hb dX8_dropHouse_33 (by decide) ?_
      exact ih _ _ hm _ _ (hP.sub [0, 1] rfl) (hD.sub [0, 1] (by decide) rfl) hS _ (lv_sub hl [1, 0] rfl)
set_option maxHeartbeats 4000000 in
set_option maxRecDepth 100000 in
theorem kX8_dropHouse (l : Launch) (dC : Nat → ClassId) (dI : Nat → Nat → Nat) (cA : ClassId) (a_t a_t_state a_t_kept a_t_stack a_t_text : Nat) (v_t_thrown v_t_saved v_t_textLength v_t_place v_t_sign v_t_readLetters v_t_readLength v_t_readNumber : Int32) (f_t_state : Nat → Int32) (p1 : Int32) (sz : Nat) (o_f_t_state : Nat → Int32) (hm : (mX8_dropHouse f_t_state p1) = some o_f_t_state) : Met l yX8_dropHouse wsX8_dropHouse rmX8_dropHouse (mpc (dC, dI) [(cA, .int)] (wX8_dropHouse cA a_t a_t_state a_t_kept a_t_stack a_t_text v_t_thrown v_t_saved v_t_textLength v_t_place v_t_sign v_t_readLetters v_t_readLength v_t_readNumber f_t_state) [.ref a_t, .int p1] sz) (mqv (dC, dI) [(cA, .int)] (va_A (wX8_dropHouse cA a_t a_t_state a_t_kept a_t_stack a_t_text v_t_thrown v_t_saved v_t_textLength v_t_place v_t_sign v_t_readLetters v_t_readLength v_t_readNumber f_t_state) sz) (wX8_dropHouse cA a_t a_t_state a_t_kept a_t_stack a_t_text v_t_thrown v_t_saved v_t_textLength v_t_place v_t_sign v_t_readLetters v_t_readLength v_t_readNumber o_f_t_state)) 0 0 (va_A (wX8_dropHouse cA a_t a_t_state a_t_kept a_t_stack a_t_text v_t_thrown v_t_saved v_t_textLength v_t_place v_t_sign v_t_readLetters v_t_readLength v_t_readNumber f_t_state) sz) := by
  unfold mX8_dropHouse at hm
  refine mu_ofW (Qc := fun A => mqv (dC, dI) [(cA, .int)] A (wX8_dropHouse cA a_t a_t_state a_t_kept a_t_stack a_t_text v_t_thrown v_t_saved v_t_textLength v_t_place v_t_sign v_t_readLetters v_t_readLength v_t_readNumber o_f_t_state)) (cc := cX8_dropHouse) (maxL := 3) (ret := none) (own := RX8) (by decide) rfl rfl (Nat.le_of_ble_eq_true rfl) ?_
  intro p e s m args below meth c hx hb hr hts hown hlocks hml hin A hA hP hD hS hK ls hl
  have hl : lv_has ls 3 [(0, .ref a_t), (1, .int p1)] := hl
  have hP : va_P (dC, dI) vwCl [(a_t, .inr (7, [.int v_t_thrown, .ref a_t_state, .ref a_t_kept, .ref a_t_stack, .int v_t_saved, .ref a_t_text, .int v_t_textLength, .int v_t_place, .int v_t_sign, .int v_t_readLetters, .int v_t_readLength, .int v_t_readNumber])), (a_t_state, .inl (cA, 255, .inl f_t_state))] s.heap := hP
  have hD : va_D A [(a_t, .inr (7, [.int v_t_thrown, .ref a_t_state, .ref a_t_kept, .ref a_t_stack, .int v_t_saved, .ref a_t_text, .int v_t_textLength, .int v_t_place, .int v_t_sign, .int v_t_readLetters, .int v_t_readLength, .int v_t_readNumber])), (a_t_state, .inl (cA, 255, .inl f_t_state))] := hD
  refine lv_iload_n hx hb dX8_dropHouse_0 rfl (lv_at hl 1 rfl) ?_
  refine lv_istore_n (lv' := [(2, .int p1), (0, .ref a_t), (1, .int p1)]) hx hb dX8_dropHouse_1 rfl hl (by decide) rfl (fun ls hl => ?_)
  obtain ⟨⟨y2_2, f_t_state_E2⟩, e2, hm⟩ := bs hm
  try dsimp only at hm
  refine wX8_dropHouse_L2 dC dI cA a_t a_t_state a_t_kept a_t_stack a_t_text v_t_thrown v_t_saved v_t_textLength v_t_place v_t_sign v_t_readLetters v_t_readLength v_t_readNumber p1  y2_2 f_t_state_E2 hx hb hml hown hts hA hK ?_ FU _ _ e2 _ _ (hP.sub [0, 1] rfl) (hD.sub [0, 1] (by decide) rfl) hS _ (lv_sub hl [1, 0] rfl)
  · intro H locs hP hD hS ls hl
    refine lv_aload_n hx hb dX8_dropHouse_36 rfl (lv_at hl 0 rfl) ?_
    refine va_get (D := (dC, dI)) (ci := 7) (C := RX8) (T := TX8) (N := 12) hx hb hts iX8_dropHouse_X8 hown hK hP 0 rfl rfl 1 (by decide) (hts _ (List.mem_of_getElem? (i := 1) rfl)) (fun _ h9 => h9) rfl dX8_dropHouse_37 ?_
    refine lv_iconst (v := 2) hx hb dX8_dropHouse_40 (by decide) ?_
    refine lv_dup2_11 hx hb dX8_dropHouse_41 rfl rfl ?_
    refine xa_ldK hx hb hK hP 1 0 rfl rfl 2 rfl (by decide) (by decide) dX8_dropHouse_42 ?_
    refine lv_iconst (v := 1) hx hb dX8_dropHouse_43 (by decide) ?_
    refine lv_isub hx hb dX8_dropHouse_44 ?_
    refine xa_stK hx hb hK hP hD hS 1 0 rfl rfl 2 rfl (by decide) (by decide) dX8_dropHouse_45 (fun H locs hP hD hS => ?_)
    have hP : va_P (dC, dI) vwCl [(a_t, .inr (7, [.int v_t_thrown, .ref a_t_state, .ref a_t_kept, .ref a_t_stack, .int v_t_saved, .ref a_t_text, .int v_t_textLength, .int v_t_place, .int v_t_sign, .int v_t_readLetters, .int v_t_readLength, .int v_t_readNumber])), (a_t_state, .inl (cA, 255, .inl (upd f_t_state_E2 2 ((f_t_state_E2 2) - 1))))] H := hP
    have hD : va_D A [(a_t, .inr (7, [.int v_t_thrown, .ref a_t_state, .ref a_t_kept, .ref a_t_stack, .int v_t_saved, .ref a_t_text, .int v_t_textLength, .int v_t_place, .int v_t_sign, .int v_t_readLetters, .int v_t_readLength, .int v_t_readNumber])), (a_t_state, .inl (cA, 255, .inl (upd f_t_state_E2 2 ((f_t_state_E2 2) - 1))))] := hD
    cases hm
    exact mu_vret hx hb hr hP hD hS hK [0, 1] rfl (by decide) dX8_dropHouse_46 hlocks
def mX8_parentOf_L4 (f_t_state : Nat → Int32) (x1_4 : Int32) : Nat → (Int32) → Option (Int32)
  | 0, _ => none
  | n + 1, x2_4 =>
    ((mX8_prefixOf f_t_state x2_4).bind fun r6 =>
    ((mX8_prefixOf f_t_state x1_4).bind fun r11 =>
    (if (mX8_begins r6 r11) = 0 then
      mX8_parentOf_L4 f_t_state x1_4 n (x2_4 + (-1))
    else
      some x2_4)))
def mX8_parentOf (f_t_state : Nat → Int32) (p1 : Int32) : Option (Int32) :=
  ((mX8_parentOf_L4 f_t_state p1 FU (p1 - 1)).bind fun y2_4 =>
  some y2_4)
abbrev rmX8_parentOf : Room := { frames := 4, cells := 0, slots := 0, locals := 82 }
abbrev wX8_parentOf (cA : ClassId) (a_t a_t_state a_t_kept a_t_stack a_t_text : Nat) (v_t_thrown v_t_saved v_t_textLength v_t_place v_t_sign v_t_readLetters v_t_readLength v_t_readNumber : Int32) (f_t_state : Nat → Int32) : va_W := [(a_t, .inr (7, [.int v_t_thrown, .ref a_t_state, .ref a_t_kept, .ref a_t_stack, .int v_t_saved, .ref a_t_text, .int v_t_textLength, .int v_t_place, .int v_t_sign, .int v_t_readLetters, .int v_t_readLength, .int v_t_readNumber])), (a_t_state, .inl (cA, 255, .inl f_t_state))]
theorem hdX8_parentOf : yX8_parentOf.cls = RX8 ∧ yX8_parentOf.cls ≠ "java/lang/invoke/MethodHandle" ∧ yX8_parentOf.cls ≠ "java/lang/invoke/VarHandle" ∧ (parseMethodDescriptor yX8_parentOf.desc).map (fun d => d.parameters.length) = some 1 := by decide +kernel
set_option maxHeartbeats 4000000 in
set_option maxRecDepth 100000 in
theorem wX8_parentOf_L4 {p : Program} {l : Launch} {e : Env} {s : State} {m : MethodId} {args : Array Value} {below : List Frame} {meth : Method} {c : Code} {Q : State → Prop} {H : Heap} (dC : Nat → ClassId) (dI : Nat → Nat → Nat) (cA : ClassId) (a_t a_t_state a_t_kept a_t_stack a_t_text : Nat) (v_t_thrown v_t_saved v_t_textLength v_t_place v_t_sign v_t_readLetters v_t_readLength v_t_readNumber : Int32) (f_t_state : Nat → Int32) (p1 x1_4 y2_4 : Int32) (hx : p.tables.exec = Jvm.exec) (hb : c.code = cX8_parentOf) (hml : c.maxLocals = 3) (hown : s.vm.findClass RX8 = some m.cls) (hts : ∀ w ∈ wsX8_parentOf, w.before args s = true) (hK : va_K (dC, dI) vwCl [(cA, .int)] s) (hP : va_P (dC, dI) vwCl [(a_t, .inr (7, [.int v_t_thrown, .ref a_t_state, .ref a_t_kept, .ref a_t_stack, .int v_t_saved, .ref a_t_text, .int v_t_textLength, .int v_t_place, .int v_t_sign, .int v_t_readLetters, .int v_t_readLength, .int v_t_readNumber])), (a_t_state, .inl (cA, 255, .inl f_t_state))] H)
    (kk0 : ∀ ls : Array Slot, lv_has ls 3 [(0, .ref a_t), (1, .int x1_4), (2, .int y2_4)] → W p l e (headSpec wsX8_parentOf rmX8_parentOf).room s m args below meth c H [] 0 0 Q (F0 m 26 ls [])) :
    ∀ (n : Nat) (x2_4 : Int32), mX8_parentOf_L4 f_t_state x1_4 n x2_4 = some y2_4 → ∀ ls : Array Slot, lv_has ls 3 [(0, .ref a_t), (1, .int x1_4), (2, .int x2_4)] → W p l e (headSpec wsX8_parentOf rmX8_parentOf).room s m args below meth c H [] 0 0 Q (F0 m 4 ls []) := by
  intro n
  induction n with
  | zero =>
    intro x2_4 hm
    cases hm
  | succ n ih =>
    intro x2_4 hm ls hl
    rw [mX8_parentOf_L4] at hm
    refine lv_aload_n hx hb dX8_parentOf_4 rfl (lv_at hl 0 rfl) ?_
    refine lv_iload_n hx hb dX8_parentOf_5 rfl (lv_at hl 2 rfl) ?_
    obtain ⟨r6, e6, hm⟩ := bs hm
    try dsimp only at hm
    refine ro_callVe ⟨hx, hb, hml, hown, hts⟩ (kX8_prefixOf l dC dI cA a_t a_t_state a_t_kept a_t_stack a_t_text v_t_thrown v_t_saved v_t_textLength v_t_place v_t_sign v_t_readLetters v_t_readLength v_t_readNumber f_t_state x2_4 r6 e6) (cwV 1 hts gX8_parentOf_X8_prefixOf rfl rfl rfl hdX8_prefixOf ⟨Nat.le_of_ble_eq_true rfl, Nat.le_of_ble_eq_true rfl⟩) (hP.sub [0, 1] rfl) hK rfl rfl rfl hl.1 rfl (Nat.le_of_ble_eq_true rfl) dX8_parentOf_6 ⟨Nat.zero_le _, Nat.zero_le _⟩ ?_
    refine lv_aload_n hx hb dX8_parentOf_9 rfl (lv_at hl 0 rfl) ?_
    refine lv_iload_n hx hb dX8_parentOf_10 rfl (lv_at hl 1 rfl) ?_
    obtain ⟨r11, e11, hm⟩ := bs hm
    try dsimp only at hm
    refine ro_callVe ⟨hx, hb, hml, hown, hts⟩ (kX8_prefixOf l dC dI cA a_t a_t_state a_t_kept a_t_stack a_t_text v_t_thrown v_t_saved v_t_textLength v_t_place v_t_sign v_t_readLetters v_t_readLength v_t_readNumber f_t_state x1_4 r11 e11) (cwV 1 hts gX8_parentOf_X8_prefixOf rfl rfl rfl hdX8_prefixOf ⟨Nat.le_of_ble_eq_true rfl, Nat.le_of_ble_eq_true rfl⟩) (hP.sub [0, 1] rfl) hK rfl rfl rfl hl.1 rfl (Nat.le_of_ble_eq_true rfl) dX8_parentOf_11 ⟨Nat.zero_le _, Nat.zero_le _⟩ ?_
    refine sp_callSz ⟨hx, hb, hml, hown, hts⟩ (kX8_begins l r6 r11) (va_cwS 2 hts gX8_parentOf_X8_begins rfl rfl rfl hdX8_begins.2 ⟨Nat.le_of_ble_eq_true rfl, Nat.le_of_ble_eq_true rfl⟩) rfl hl.1 rfl (Nat.le_of_ble_eq_true rfl) dX8_parentOf_14 ⟨Nat.zero_le _, Nat.zero_le _⟩ (fun hb14 => ?_)
    refine lv_if_ne (tgt := 26) hx hb dX8_parentOf_17 (by decide) (fun c17 => ?_) (fun c17 => ?_)
    · rw [if_neg c17] at hm
      cases hm
      exact kk0 _ (lv_sub hl [0, 1, 2] rfl)
    · rw [if_pos c17] at hm
      refine lv_iinc (v := (x2_4 + (-1))) (lv' := [(2, .int (x2_4 + (-1))), (0, .ref a_t), (1, .int x1_4)]) hx hb dX8_parentOf_20 hl (k := 2) rfl rfl (by decide) rfl (fun ls hl => ?_)
      refine lv_goto (tgt := 4) hx hb dX8_parentOf_23 (by decide) ?_
      exact ih _ hm _ (lv_sub hl [1, 2, 0] rfl)
set_option maxHeartbeats 4000000 in
set_option maxRecDepth 100000 in
theorem kX8_parentOf (l : Launch) (dC : Nat → ClassId) (dI : Nat → Nat → Nat) (cA : ClassId) (a_t a_t_state a_t_kept a_t_stack a_t_text : Nat) (v_t_thrown v_t_saved v_t_textLength v_t_place v_t_sign v_t_readLetters v_t_readLength v_t_readNumber : Int32) (f_t_state : Nat → Int32) (p1 r : Int32) (hm : (mX8_parentOf f_t_state p1) = some r) : Met l yX8_parentOf wsX8_parentOf rmX8_parentOf (rpc (dC, dI) [(cA, .int)] (wX8_parentOf cA a_t a_t_state a_t_kept a_t_stack a_t_text v_t_thrown v_t_saved v_t_textLength v_t_place v_t_sign v_t_readLetters v_t_readLength v_t_readNumber f_t_state) [.ref a_t, .int p1]) (vp_Si (fun x => x = r)) 0 0 (fun _ => False) := by
  unfold mX8_parentOf at hm
  refine ro_ofW (cc := cX8_parentOf) (maxL := 3) (ret := (some .int)) (own := RX8) (by decide) rfl rfl (Nat.le_of_ble_eq_true rfl) ?_
  intro p e s m args below meth c hx hb hr hts hown hlocks hml hP hK ls hl
  have hl : lv_has ls 3 [(0, .ref a_t), (1, .int p1)] := hl
  have hP : va_P (dC, dI) vwCl [(a_t, .inr (7, [.int v_t_thrown, .ref a_t_state, .ref a_t_kept, .ref a_t_stack, .int v_t_saved, .ref a_t_text, .int v_t_textLength, .int v_t_place, .int v_t_sign, .int v_t_readLetters, .int v_t_readLength, .int v_t_readNumber])), (a_t_state, .inl (cA, 255, .inl f_t_state))] s.heap := hP
  refine lv_iload_n hx hb dX8_parentOf_0 rfl (lv_at hl 1 rfl) ?_
  refine lv_iconst (v := 1) hx hb dX8_parentOf_1 (by decide) ?_
  refine lv_isub hx hb dX8_parentOf_2 ?_
  refine lv_istore_n (lv' := [(2, .int (p1 - 1)), (0, .ref a_t), (1, .int p1)]) hx hb dX8_parentOf_3 rfl hl (by decide) rfl (fun ls hl => ?_)
  obtain ⟨y2_4, e4, hm⟩ := bs hm
  try dsimp only at hm
  refine wX8_parentOf_L4 dC dI cA a_t a_t_state a_t_kept a_t_stack a_t_text v_t_thrown v_t_saved v_t_textLength v_t_place v_t_sign v_t_readLetters v_t_readLength v_t_readNumber f_t_state p1 p1 y2_4 hx hb hml hown hts hK (hP.sub [0, 1] rfl) ?_ FU _ e4 _ (lv_sub hl [1, 2, 0] rfl)
  · intro ls hl
    refine lv_iload_n hx hb dX8_parentOf_26 rfl (lv_at hl 2 rfl) ?_
    cases hm
    exact ro_iret hx hb hr rfl rfl dX8_parentOf_27 hlocks
def mX8_childrenOf_L6 (f_t_state : Nat → Int32) (x1_6 : Int32) : Nat → (Int32) → (Int32) → Option (Int32 × Int32)
  | 0, _, _ => none
  | n + 1, x2_6, x3_6 =>
    (if (f_t_state 2) ≤ x3_6 then
      some (x2_6, x3_6)
    else
      ((mX8_parentOf f_t_state x3_6).bind fun r19 =>
      mX8_childrenOf_L6 f_t_state x1_6 n (x2_6 + (if r19 = x1_6 then (1 : Int32) else 0)) (x3_6 + 1)))
def mX8_childrenOf (f_t_state : Nat → Int32) (p1 : Int32) : Option (Int32) :=
  ((mX8_childrenOf_L6 f_t_state p1 FU 0 (p1 + 1)).bind fun (y2_6, y3_6) =>
  some y2_6)
abbrev rmX8_childrenOf : Room := { frames := 5, cells := 0, slots := 0, locals := 104 }
abbrev wX8_childrenOf (cA : ClassId) (a_t a_t_state a_t_kept a_t_stack a_t_text : Nat) (v_t_thrown v_t_saved v_t_textLength v_t_place v_t_sign v_t_readLetters v_t_readLength v_t_readNumber : Int32) (f_t_state : Nat → Int32) : va_W := [(a_t, .inr (7, [.int v_t_thrown, .ref a_t_state, .ref a_t_kept, .ref a_t_stack, .int v_t_saved, .ref a_t_text, .int v_t_textLength, .int v_t_place, .int v_t_sign, .int v_t_readLetters, .int v_t_readLength, .int v_t_readNumber])), (a_t_state, .inl (cA, 255, .inl f_t_state))]
theorem iX8_childrenOf_X8 : ∀ w ∈ wsX80, w ∈ wsX8_childrenOf := (fun _ h => List.mem_cons_of_mem _ (List.mem_append_right _ h))
theorem hdX8_childrenOf : yX8_childrenOf.cls = RX8 ∧ yX8_childrenOf.cls ≠ "java/lang/invoke/MethodHandle" ∧ yX8_childrenOf.cls ≠ "java/lang/invoke/VarHandle" ∧ (parseMethodDescriptor yX8_childrenOf.desc).map (fun d => d.parameters.length) = some 1 := by decide +kernel
set_option maxHeartbeats 4000000 in
set_option maxRecDepth 100000 in
theorem wX8_childrenOf_L6 {p : Program} {l : Launch} {e : Env} {s : State} {m : MethodId} {args : Array Value} {below : List Frame} {meth : Method} {c : Code} {Q : State → Prop} {H : Heap} (dC : Nat → ClassId) (dI : Nat → Nat → Nat) (cA : ClassId) (a_t a_t_state a_t_kept a_t_stack a_t_text : Nat) (v_t_thrown v_t_saved v_t_textLength v_t_place v_t_sign v_t_readLetters v_t_readLength v_t_readNumber : Int32) (f_t_state : Nat → Int32) (p1 x1_6 y2_6 y3_6 : Int32) (hx : p.tables.exec = Jvm.exec) (hb : c.code = cX8_childrenOf) (hml : c.maxLocals = 4) (hown : s.vm.findClass RX8 = some m.cls) (hts : ∀ w ∈ wsX8_childrenOf, w.before args s = true) (hK : va_K (dC, dI) vwCl [(cA, .int)] s) (hP : va_P (dC, dI) vwCl [(a_t, .inr (7, [.int v_t_thrown, .ref a_t_state, .ref a_t_kept, .ref a_t_stack, .int v_t_saved, .ref a_t_text, .int v_t_textLength, .int v_t_place, .int v_t_sign, .int v_t_readLetters, .int v_t_readLength, .int v_t_readNumber])), (a_t_state, .inl (cA, 255, .inl f_t_state))] H)
    (kk0 : ∀ ls : Array Slot, lv_has ls 4 [(0, .ref a_t), (1, .int x1_6), (2, .int y2_6), (3, .int y3_6)] → W p l e (headSpec wsX8_childrenOf rmX8_childrenOf).room s m args below meth c H [] 0 0 Q (F0 m 39 ls [])) :
    ∀ (n : Nat) (x2_6 x3_6 : Int32), mX8_childrenOf_L6 f_t_state x1_6 n x2_6 x3_6 = some (y2_6, y3_6) → ∀ ls : Array Slot, lv_has ls 4 [(0, .ref a_t), (1, .int x1_6), (2, .int x2_6), (3, .int x3_6)] → W p l e (headSpec wsX8_childrenOf rmX8_childrenOf).room s m args below meth c H [] 0 0 Q (F0 m 6 ls []) := by
  intro n
  induction n with
  | zero =>
    intro x2_6 x3_6 hm
    cases hm
  | succ n ih =>
    intro x2_6 x3_6 hm ls hl
    rw [mX8_childrenOf_L6] at hm
    refine lv_iload_n hx hb dX8_childrenOf_6 rfl (lv_at hl 3 rfl) ?_
    refine lv_aload_n hx hb dX8_childrenOf_7 rfl (lv_at hl 0 rfl) ?_
    refine va_get (D := (dC, dI)) (ci := 7) (C := RX8) (T := TX8) (N := 12) hx hb hts iX8_childrenOf_X8 hown hK hP 0 rfl rfl 1 (by decide) (hts _ (List.mem_of_getElem? (i := 1) rfl)) (fun _ h9 => h9) rfl dX8_childrenOf_8 ?_
    refine lv_iconst (v := 2) hx hb dX8_childrenOf_11 (by decide) ?_
    refine xa_ldK hx hb hK hP 1 0 rfl rfl 2 rfl (by decide) (by decide) dX8_childrenOf_12 ?_
    refine lv_icmp_ge (tgt := 39) hx hb dX8_childrenOf_13 (by decide) (fun c13 => ?_) (fun c13 => ?_)
    · rw [if_pos c13] at hm
      cases hm
      exact kk0 _ (lv_sub hl [0, 1, 2, 3] rfl)
    · rw [if_neg c13] at hm
      refine lv_iload_n hx hb dX8_childrenOf_16 rfl (lv_at hl 2 rfl) ?_
      refine lv_aload_n hx hb dX8_childrenOf_17 rfl (lv_at hl 0 rfl) ?_
      refine lv_iload_n hx hb dX8_childrenOf_18 rfl (lv_at hl 3 rfl) ?_
      obtain ⟨r19, e19, hm⟩ := bs hm
      try dsimp only at hm
      refine ro_callVe ⟨hx, hb, hml, hown, hts⟩ (kX8_parentOf l dC dI cA a_t a_t_state a_t_kept a_t_stack a_t_text v_t_thrown v_t_saved v_t_textLength v_t_place v_t_sign v_t_readLetters v_t_readLength v_t_readNumber f_t_state x3_6 r19 e19) (cwV 1 hts gX8_childrenOf_X8_parentOf rfl rfl rfl hdX8_parentOf ⟨Nat.le_of_ble_eq_true rfl, Nat.le_of_ble_eq_true rfl⟩) (hP.sub [0, 1] rfl) hK rfl rfl rfl hl.1 rfl (Nat.le_of_ble_eq_true rfl) dX8_childrenOf_19 ⟨Nat.zero_le _, Nat.zero_le _⟩ ?_
      refine lv_iload_n hx hb dX8_childrenOf_22 rfl (lv_at hl 1 rfl) ?_
      refine lv_icmp_ne (tgt := 30) hx hb dX8_childrenOf_23 (by decide) (fun c23 => ?_) (fun c23 => ?_)
      · try simp only [if_neg c23] at hm
        refine lv_iconst (v := 0) hx hb dX8_childrenOf_30 (by decide) ?_
        refine lv_iadd hx hb dX8_childrenOf_31 ?_
        refine lv_istore_n (lv' := [(2, .int (x2_6 + 0)), (0, .ref a_t), (1, .int x1_6), (3, .int x3_6)]) hx hb dX8_childrenOf_32 rfl hl (by decide) rfl (fun ls hl => ?_)
        refine lv_iinc (v := (x3_6 + 1)) (lv' := [(3, .int (x3_6 + 1)), (2, .int (x2_6 + 0)), (0, .ref a_t), (1, .int x1_6)]) hx hb dX8_childrenOf_33 hl (k := 3) rfl rfl (by decide) rfl (fun ls hl => ?_)
        refine lv_goto (tgt := 6) hx hb dX8_childrenOf_36 (by decide) ?_
        exact ih _ _ hm _ (lv_sub hl [2, 3, 1, 0] rfl)
      · try simp only [if_pos c23] at hm
        refine lv_iconst (v := 1) hx hb dX8_childrenOf_26 (by decide) ?_
        refine lv_goto (tgt := 31) hx hb dX8_childrenOf_27 (by decide) ?_
        refine lv_iadd hx hb dX8_childrenOf_31 ?_
        refine lv_istore_n (lv' := [(2, .int (x2_6 + 1)), (0, .ref a_t), (1, .int x1_6), (3, .int x3_6)]) hx hb dX8_childrenOf_32 rfl hl (by decide) rfl (fun ls hl => ?_)
        refine lv_iinc (v := (x3_6 + 1)) (lv' := [(3, .int (x3_6 + 1)), (2, .int (x2_6 + 1)), (0, .ref a_t), (1, .int x1_6)]) hx hb dX8_childrenOf_33 hl (k := 3) rfl rfl (by decide) rfl (fun ls hl => ?_)
        refine lv_goto (tgt := 6) hx hb dX8_childrenOf_36 (by decide) ?_
        exact ih _ _ hm _ (lv_sub hl [2, 3, 1, 0] rfl)
set_option maxHeartbeats 4000000 in
set_option maxRecDepth 100000 in
theorem kX8_childrenOf (l : Launch) (dC : Nat → ClassId) (dI : Nat → Nat → Nat) (cA : ClassId) (a_t a_t_state a_t_kept a_t_stack a_t_text : Nat) (v_t_thrown v_t_saved v_t_textLength v_t_place v_t_sign v_t_readLetters v_t_readLength v_t_readNumber : Int32) (f_t_state : Nat → Int32) (p1 r : Int32) (hm : (mX8_childrenOf f_t_state p1) = some r) : Met l yX8_childrenOf wsX8_childrenOf rmX8_childrenOf (rpc (dC, dI) [(cA, .int)] (wX8_childrenOf cA a_t a_t_state a_t_kept a_t_stack a_t_text v_t_thrown v_t_saved v_t_textLength v_t_place v_t_sign v_t_readLetters v_t_readLength v_t_readNumber f_t_state) [.ref a_t, .int p1]) (vp_Si (fun x => x = r)) 0 0 (fun _ => False) := by
  unfold mX8_childrenOf at hm
  refine ro_ofW (cc := cX8_childrenOf) (maxL := 4) (ret := (some .int)) (own := RX8) (by decide) rfl rfl (Nat.le_of_ble_eq_true rfl) ?_
  intro p e s m args below meth c hx hb hr hts hown hlocks hml hP hK ls hl
  have hl : lv_has ls 4 [(0, .ref a_t), (1, .int p1)] := hl
  have hP : va_P (dC, dI) vwCl [(a_t, .inr (7, [.int v_t_thrown, .ref a_t_state, .ref a_t_kept, .ref a_t_stack, .int v_t_saved, .ref a_t_text, .int v_t_textLength, .int v_t_place, .int v_t_sign, .int v_t_readLetters, .int v_t_readLength, .int v_t_readNumber])), (a_t_state, .inl (cA, 255, .inl f_t_state))] s.heap := hP
  refine lv_iconst (v := 0) hx hb dX8_childrenOf_0 (by decide) ?_
  refine lv_istore_n (lv' := [(2, .int 0), (0, .ref a_t), (1, .int p1)]) hx hb dX8_childrenOf_1 rfl hl (by decide) rfl (fun ls hl => ?_)
  refine lv_iload_n hx hb dX8_childrenOf_2 rfl (lv_at hl 2 rfl) ?_
  refine lv_iconst (v := 1) hx hb dX8_childrenOf_3 (by decide) ?_
  refine lv_iadd hx hb dX8_childrenOf_4 ?_
  refine lv_istore_n (lv' := [(3, .int (p1 + 1)), (2, .int 0), (0, .ref a_t), (1, .int p1)]) hx hb dX8_childrenOf_5 rfl hl (by decide) rfl (fun ls hl => ?_)
  obtain ⟨⟨y2_6, y3_6⟩, e6, hm⟩ := bs hm
  try dsimp only at hm
  refine wX8_childrenOf_L6 dC dI cA a_t a_t_state a_t_kept a_t_stack a_t_text v_t_thrown v_t_saved v_t_textLength v_t_place v_t_sign v_t_readLetters v_t_readLength v_t_readNumber f_t_state p1 p1 y2_6 y3_6 hx hb hml hown hts hK (hP.sub [0, 1] rfl) ?_ FU _ _ e6 _ (lv_sub hl [2, 3, 1, 0] rfl)
  · intro ls hl
    refine lv_iload_n hx hb dX8_childrenOf_39 rfl (lv_at hl 2 rfl) ?_
    cases hm
    exact ro_iret hx hb hr rfl rfl dX8_childrenOf_40 hlocks
def mX8_roadsTo_L4 (f_t_state : Nat → Int32) (x1_4 : Int32) : Nat → (Int32) → (Int32) → Option (Int32 × Int32)
  | 0, _, _ => none
  | n + 1, x2_4, x3_4 =>
    (if (f_t_state 2) ≤ x3_4 then
      some (x2_4, x3_4)
    else
      ((mX8_prefixOf f_t_state x3_4).bind fun r17 =>
      mX8_roadsTo_L4 f_t_state x1_4 n (x2_4 + (if (mX8_begins r17 x1_4) = 0 then (0 : Int32) else 1)) (x3_4 + 1)))
def mX8_roadsTo (f_t_state : Nat → Int32) (p1 : Int32) : Option (Int32) :=
  ((mX8_roadsTo_L4 f_t_state p1 FU (-1) 0).bind fun (y2_4, y3_4) =>
  some y2_4)
abbrev rmX8_roadsTo : Room := { frames := 4, cells := 0, slots := 0, locals := 82 }
abbrev wX8_roadsTo (cA : ClassId) (a_t a_t_state a_t_kept a_t_stack a_t_text : Nat) (v_t_thrown v_t_saved v_t_textLength v_t_place v_t_sign v_t_readLetters v_t_readLength v_t_readNumber : Int32) (f_t_state : Nat → Int32) : va_W := [(a_t, .inr (7, [.int v_t_thrown, .ref a_t_state, .ref a_t_kept, .ref a_t_stack, .int v_t_saved, .ref a_t_text, .int v_t_textLength, .int v_t_place, .int v_t_sign, .int v_t_readLetters, .int v_t_readLength, .int v_t_readNumber])), (a_t_state, .inl (cA, 255, .inl f_t_state))]
theorem iX8_roadsTo_X8 : ∀ w ∈ wsX80, w ∈ wsX8_roadsTo := (fun _ h => List.mem_cons_of_mem _ (List.mem_append_right _ h))
theorem hdX8_roadsTo : yX8_roadsTo.cls = RX8 ∧ yX8_roadsTo.cls ≠ "java/lang/invoke/MethodHandle" ∧ yX8_roadsTo.cls ≠ "java/lang/invoke/VarHandle" ∧ (parseMethodDescriptor yX8_roadsTo.desc).map (fun d => d.parameters.length) = some 1 := by decide +kernel
set_option maxHeartbeats 4000000 in
set_option maxRecDepth 100000 in
theorem wX8_roadsTo_L4 {p : Program} {l : Launch} {e : Env} {s : State} {m : MethodId} {args : Array Value} {below : List Frame} {meth : Method} {c : Code} {Q : State → Prop} {H : Heap} (dC : Nat → ClassId) (dI : Nat → Nat → Nat) (cA : ClassId) (a_t a_t_state a_t_kept a_t_stack a_t_text : Nat) (v_t_thrown v_t_saved v_t_textLength v_t_place v_t_sign v_t_readLetters v_t_readLength v_t_readNumber : Int32) (f_t_state : Nat → Int32) (p1 x1_4 y2_4 y3_4 : Int32) (hx : p.tables.exec = Jvm.exec) (hb : c.code = cX8_roadsTo) (hml : c.maxLocals = 4) (hown : s.vm.findClass RX8 = some m.cls) (hts : ∀ w ∈ wsX8_roadsTo, w.before args s = true) (hK : va_K (dC, dI) vwCl [(cA, .int)] s) (hP : va_P (dC, dI) vwCl [(a_t, .inr (7, [.int v_t_thrown, .ref a_t_state, .ref a_t_kept, .ref a_t_stack, .int v_t_saved, .ref a_t_text, .int v_t_textLength, .int v_t_place, .int v_t_sign, .int v_t_readLetters, .int v_t_readLength, .int v_t_readNumber])), (a_t_state, .inl (cA, 255, .inl f_t_state))] H)
    (kk0 : ∀ ls : Array Slot, lv_has ls 4 [(0, .ref a_t), (1, .int x1_4), (2, .int y2_4), (3, .int y3_4)] → W p l e (headSpec wsX8_roadsTo rmX8_roadsTo).room s m args below meth c H [] 0 0 Q (F0 m 40 ls [])) :
    ∀ (n : Nat) (x2_4 x3_4 : Int32), mX8_roadsTo_L4 f_t_state x1_4 n x2_4 x3_4 = some (y2_4, y3_4) → ∀ ls : Array Slot, lv_has ls 4 [(0, .ref a_t), (1, .int x1_4), (2, .int x2_4), (3, .int x3_4)] → W p l e (headSpec wsX8_roadsTo rmX8_roadsTo).room s m args below meth c H [] 0 0 Q (F0 m 4 ls []) := by
  intro n
  induction n with
  | zero =>
    intro x2_4 x3_4 hm
    cases hm
  | succ n ih =>
    intro x2_4 x3_4 hm ls hl
    rw [mX8_roadsTo_L4] at hm
    refine lv_iload_n hx hb dX8_roadsTo_4 rfl (lv_at hl 3 rfl) ?_
    refine lv_aload_n hx hb dX8_roadsTo_5 rfl (lv_at hl 0 rfl) ?_
    refine va_get (D := (dC, dI)) (ci := 7) (C := RX8) (T := TX8) (N := 12) hx hb hts iX8_roadsTo_X8 hown hK hP 0 rfl rfl 1 (by decide) (hts _ (List.mem_of_getElem? (i := 1) rfl)) (fun _ h9 => h9) rfl dX8_roadsTo_6 ?_
    refine lv_iconst (v := 2) hx hb dX8_roadsTo_9 (by decide) ?_
    refine xa_ldK hx hb hK hP 1 0 rfl rfl 2 rfl (by decide) (by decide) dX8_roadsTo_10 ?_
    refine lv_icmp_ge (tgt := 40) hx hb dX8_roadsTo_11 (by decide) (fun c11 => ?_) (fun c11 => ?_)
    · rw [if_pos c11] at hm
      cases hm
      exact kk0 _ (lv_sub hl [0, 1, 2, 3] rfl)
    · rw [if_neg c11] at hm
      refine lv_iload_n hx hb dX8_roadsTo_14 rfl (lv_at hl 2 rfl) ?_
      refine lv_aload_n hx hb dX8_roadsTo_15 rfl (lv_at hl 0 rfl) ?_
      refine lv_iload_n hx hb dX8_roadsTo_16 rfl (lv_at hl 3 rfl) ?_
      obtain ⟨r17, e17, hm⟩ := bs hm
      try dsimp only at hm
      refine ro_callVe ⟨hx, hb, hml, hown, hts⟩ (kX8_prefixOf l dC dI cA a_t a_t_state a_t_kept a_t_stack a_t_text v_t_thrown v_t_saved v_t_textLength v_t_place v_t_sign v_t_readLetters v_t_readLength v_t_readNumber f_t_state x3_4 r17 e17) (cwV 1 hts gX8_roadsTo_X8_prefixOf rfl rfl rfl hdX8_prefixOf ⟨Nat.le_of_ble_eq_true rfl, Nat.le_of_ble_eq_true rfl⟩) (hP.sub [0, 1] rfl) hK rfl rfl rfl hl.1 rfl (Nat.le_of_ble_eq_true rfl) dX8_roadsTo_17 ⟨Nat.zero_le _, Nat.zero_le _⟩ ?_
      refine lv_iload_n hx hb dX8_roadsTo_20 rfl (lv_at hl 1 rfl) ?_
      refine sp_callSz ⟨hx, hb, hml, hown, hts⟩ (kX8_begins l r17 x1_4) (va_cwS 2 hts gX8_roadsTo_X8_begins rfl rfl rfl hdX8_begins.2 ⟨Nat.le_of_ble_eq_true rfl, Nat.le_of_ble_eq_true rfl⟩) rfl hl.1 rfl (Nat.le_of_ble_eq_true rfl) dX8_roadsTo_21 ⟨Nat.zero_le _, Nat.zero_le _⟩ (fun hb21 => ?_)
      refine lv_if_eq (tgt := 31) hx hb dX8_roadsTo_24 (by decide) (fun c24 => ?_) (fun c24 => ?_)
      · try simp only [if_pos c24] at hm
        refine lv_iconst (v := 0) hx hb dX8_roadsTo_31 (by decide) ?_
        refine lv_iadd hx hb dX8_roadsTo_32 ?_
        refine lv_istore_n (lv' := [(2, .int (x2_4 + 0)), (0, .ref a_t), (1, .int x1_4), (3, .int x3_4)]) hx hb dX8_roadsTo_33 rfl hl (by decide) rfl (fun ls hl => ?_)
        refine lv_iinc (v := (x3_4 + 1)) (lv' := [(3, .int (x3_4 + 1)), (2, .int (x2_4 + 0)), (0, .ref a_t), (1, .int x1_4)]) hx hb dX8_roadsTo_34 hl (k := 3) rfl rfl (by decide) rfl (fun ls hl => ?_)
        refine lv_goto (tgt := 4) hx hb dX8_roadsTo_37 (by decide) ?_
        exact ih _ _ hm _ (lv_sub hl [2, 3, 1, 0] rfl)
      · try simp only [if_neg c24] at hm
        refine lv_iconst (v := 1) hx hb dX8_roadsTo_27 (by decide) ?_
        refine lv_goto (tgt := 32) hx hb dX8_roadsTo_28 (by decide) ?_
        refine lv_iadd hx hb dX8_roadsTo_32 ?_
        refine lv_istore_n (lv' := [(2, .int (x2_4 + 1)), (0, .ref a_t), (1, .int x1_4), (3, .int x3_4)]) hx hb dX8_roadsTo_33 rfl hl (by decide) rfl (fun ls hl => ?_)
        refine lv_iinc (v := (x3_4 + 1)) (lv' := [(3, .int (x3_4 + 1)), (2, .int (x2_4 + 1)), (0, .ref a_t), (1, .int x1_4)]) hx hb dX8_roadsTo_34 hl (k := 3) rfl rfl (by decide) rfl (fun ls hl => ?_)
        refine lv_goto (tgt := 4) hx hb dX8_roadsTo_37 (by decide) ?_
        exact ih _ _ hm _ (lv_sub hl [2, 3, 1, 0] rfl)
set_option maxHeartbeats 4000000 in
set_option maxRecDepth 100000 in
theorem kX8_roadsTo (l : Launch) (dC : Nat → ClassId) (dI : Nat → Nat → Nat) (cA : ClassId) (a_t a_t_state a_t_kept a_t_stack a_t_text : Nat) (v_t_thrown v_t_saved v_t_textLength v_t_place v_t_sign v_t_readLetters v_t_readLength v_t_readNumber : Int32) (f_t_state : Nat → Int32) (p1 r : Int32) (hm : (mX8_roadsTo f_t_state p1) = some r) : Met l yX8_roadsTo wsX8_roadsTo rmX8_roadsTo (rpc (dC, dI) [(cA, .int)] (wX8_roadsTo cA a_t a_t_state a_t_kept a_t_stack a_t_text v_t_thrown v_t_saved v_t_textLength v_t_place v_t_sign v_t_readLetters v_t_readLength v_t_readNumber f_t_state) [.ref a_t, .int p1]) (vp_Si (fun x => x = r)) 0 0 (fun _ => False) := by
  unfold mX8_roadsTo at hm
  refine ro_ofW (cc := cX8_roadsTo) (maxL := 4) (ret := (some .int)) (own := RX8) (by decide) rfl rfl (Nat.le_of_ble_eq_true rfl) ?_
  intro p e s m args below meth c hx hb hr hts hown hlocks hml hP hK ls hl
  have hl : lv_has ls 4 [(0, .ref a_t), (1, .int p1)] := hl
  have hP : va_P (dC, dI) vwCl [(a_t, .inr (7, [.int v_t_thrown, .ref a_t_state, .ref a_t_kept, .ref a_t_stack, .int v_t_saved, .ref a_t_text, .int v_t_textLength, .int v_t_place, .int v_t_sign, .int v_t_readLetters, .int v_t_readLength, .int v_t_readNumber])), (a_t_state, .inl (cA, 255, .inl f_t_state))] s.heap := hP
  refine lv_iconst (v := (-1)) hx hb dX8_roadsTo_0 (by decide) ?_
  refine lv_istore_n (lv' := [(2, .int (-1)), (0, .ref a_t), (1, .int p1)]) hx hb dX8_roadsTo_1 rfl hl (by decide) rfl (fun ls hl => ?_)
  refine lv_iconst (v := 0) hx hb dX8_roadsTo_2 (by decide) ?_
  refine lv_istore_n (lv' := [(3, .int 0), (2, .int (-1)), (0, .ref a_t), (1, .int p1)]) hx hb dX8_roadsTo_3 rfl hl (by decide) rfl (fun ls hl => ?_)
  obtain ⟨⟨y2_4, y3_4⟩, e4, hm⟩ := bs hm
  try dsimp only at hm
  refine wX8_roadsTo_L4 dC dI cA a_t a_t_state a_t_kept a_t_stack a_t_text v_t_thrown v_t_saved v_t_textLength v_t_place v_t_sign v_t_readLetters v_t_readLength v_t_readNumber f_t_state p1 p1 y2_4 y3_4 hx hb hml hown hts hK (hP.sub [0, 1] rfl) ?_ FU _ _ e4 _ (lv_sub hl [2, 3, 1, 0] rfl)
  · intro ls hl
    refine lv_iload_n hx hb dX8_roadsTo_40 rfl (lv_at hl 2 rfl) ?_
    cases hm
    exact ro_iret hx hb hr rfl rfl dX8_roadsTo_41 hlocks
def mX8_labelOf (f_t_state : Nat → Int32) (p1 : Int32) : Option (Int32) :=
  (if p1 = 0 then
    some 0
  else
    ((mX8_prefixOf f_t_state p1).bind fun r10 =>
    ((mX8_parentOf f_t_state p1).bind fun r19 =>
    ((mX8_prefixOf f_t_state r19).bind fun r22 =>
    some ((mX8_lengthOf r10) - (mX8_lengthOf r22))))))
abbrev rmX8_labelOf : Room := { frames := 5, cells := 0, slots := 0, locals := 104 }
abbrev wX8_labelOf (cA : ClassId) (a_t a_t_state a_t_kept a_t_stack a_t_text : Nat) (v_t_thrown v_t_saved v_t_textLength v_t_place v_t_sign v_t_readLetters v_t_readLength v_t_readNumber : Int32) (f_t_state : Nat → Int32) : va_W := [(a_t, .inr (7, [.int v_t_thrown, .ref a_t_state, .ref a_t_kept, .ref a_t_stack, .int v_t_saved, .ref a_t_text, .int v_t_textLength, .int v_t_place, .int v_t_sign, .int v_t_readLetters, .int v_t_readLength, .int v_t_readNumber])), (a_t_state, .inl (cA, 255, .inl f_t_state))]
theorem hdX8_labelOf : yX8_labelOf.cls = RX8 ∧ yX8_labelOf.cls ≠ "java/lang/invoke/MethodHandle" ∧ yX8_labelOf.cls ≠ "java/lang/invoke/VarHandle" ∧ (parseMethodDescriptor yX8_labelOf.desc).map (fun d => d.parameters.length) = some 1 := by decide +kernel
set_option maxHeartbeats 4000000 in
set_option maxRecDepth 100000 in
theorem kX8_labelOf (l : Launch) (dC : Nat → ClassId) (dI : Nat → Nat → Nat) (cA : ClassId) (a_t a_t_state a_t_kept a_t_stack a_t_text : Nat) (v_t_thrown v_t_saved v_t_textLength v_t_place v_t_sign v_t_readLetters v_t_readLength v_t_readNumber : Int32) (f_t_state : Nat → Int32) (p1 r : Int32) (hm : (mX8_labelOf f_t_state p1) = some r) : Met l yX8_labelOf wsX8_labelOf rmX8_labelOf (rpc (dC, dI) [(cA, .int)] (wX8_labelOf cA a_t a_t_state a_t_kept a_t_stack a_t_text v_t_thrown v_t_saved v_t_textLength v_t_place v_t_sign v_t_readLetters v_t_readLength v_t_readNumber f_t_state) [.ref a_t, .int p1]) (vp_Si (fun x => x = r)) 0 0 (fun _ => False) := by
  unfold mX8_labelOf at hm
  refine ro_ofW (cc := cX8_labelOf) (maxL := 2) (ret := (some .int)) (own := RX8) (by decide) rfl rfl (Nat.le_of_ble_eq_true rfl) ?_
  intro p e s m args below meth c hx hb hr hts hown hlocks hml hP hK ls hl
  have hl : lv_has ls 2 [(0, .ref a_t), (1, .int p1)] := hl
  have hP : va_P (dC, dI) vwCl [(a_t, .inr (7, [.int v_t_thrown, .ref a_t_state, .ref a_t_kept, .ref a_t_stack, .int v_t_saved, .ref a_t_text, .int v_t_textLength, .int v_t_place, .int v_t_sign, .int v_t_readLetters, .int v_t_readLength, .int v_t_readNumber])), (a_t_state, .inl (cA, 255, .inl f_t_state))] s.heap := hP
  refine lv_iload_n hx hb dX8_labelOf_0 rfl (lv_at hl 1 rfl) ?_
  refine lv_if_ne (tgt := 8) hx hb dX8_labelOf_1 (by decide) (fun c1 => ?_) (fun c1 => ?_)
  · rw [if_neg c1] at hm
    refine lv_aload_n hx hb dX8_labelOf_8 rfl (lv_at hl 0 rfl) ?_
    refine lv_iload_n hx hb dX8_labelOf_9 rfl (lv_at hl 1 rfl) ?_
    obtain ⟨r10, e10, hm⟩ := bs hm
    try dsimp only at hm
    refine ro_callVe ⟨hx, hb, hml, hown, hts⟩ (kX8_prefixOf l dC dI cA a_t a_t_state a_t_kept a_t_stack a_t_text v_t_thrown v_t_saved v_t_textLength v_t_place v_t_sign v_t_readLetters v_t_readLength v_t_readNumber f_t_state p1 r10 e10) (cwV 1 hts gX8_labelOf_X8_prefixOf rfl rfl rfl hdX8_prefixOf ⟨Nat.le_of_ble_eq_true rfl, Nat.le_of_ble_eq_true rfl⟩) (hP.sub [0, 1] rfl) hK rfl rfl rfl hl.1 rfl (Nat.le_of_ble_eq_true rfl) dX8_labelOf_10 ⟨Nat.zero_le _, Nat.zero_le _⟩ ?_
    refine sp_callSe ⟨hx, hb, hml, hown, hts⟩ (kX8_lengthOf l r10) (va_cwS 1 hts gX8_labelOf_X8_lengthOf rfl rfl rfl hdX8_lengthOf.2 ⟨Nat.le_of_ble_eq_true rfl, Nat.le_of_ble_eq_true rfl⟩) rfl hl.1 rfl (Nat.le_of_ble_eq_true rfl) dX8_labelOf_13 ⟨Nat.zero_le _, Nat.zero_le _⟩ ?_
    refine lv_aload_n hx hb dX8_labelOf_16 rfl (lv_at hl 0 rfl) ?_
    refine lv_aload_n hx hb dX8_labelOf_17 rfl (lv_at hl 0 rfl) ?_
    refine lv_iload_n hx hb dX8_labelOf_18 rfl (lv_at hl 1 rfl) ?_
    obtain ⟨r19, e19, hm⟩ := bs hm
    try dsimp only at hm
    refine ro_callVe ⟨hx, hb, hml, hown, hts⟩ (kX8_parentOf l dC dI cA a_t a_t_state a_t_kept a_t_stack a_t_text v_t_thrown v_t_saved v_t_textLength v_t_place v_t_sign v_t_readLetters v_t_readLength v_t_readNumber f_t_state p1 r19 e19) (cwV 1 hts gX8_labelOf_X8_parentOf rfl rfl rfl hdX8_parentOf ⟨Nat.le_of_ble_eq_true rfl, Nat.le_of_ble_eq_true rfl⟩) (hP.sub [0, 1] rfl) hK rfl rfl rfl hl.1 rfl (Nat.le_of_ble_eq_true rfl) dX8_labelOf_19 ⟨Nat.zero_le _, Nat.zero_le _⟩ ?_
    obtain ⟨r22, e22, hm⟩ := bs hm
    try dsimp only at hm
    refine ro_callVe ⟨hx, hb, hml, hown, hts⟩ (kX8_prefixOf l dC dI cA a_t a_t_state a_t_kept a_t_stack a_t_text v_t_thrown v_t_saved v_t_textLength v_t_place v_t_sign v_t_readLetters v_t_readLength v_t_readNumber f_t_state r19 r22 e22) (cwV 1 hts gX8_labelOf_X8_prefixOf rfl rfl rfl hdX8_prefixOf ⟨Nat.le_of_ble_eq_true rfl, Nat.le_of_ble_eq_true rfl⟩) (hP.sub [0, 1] rfl) hK rfl rfl rfl hl.1 rfl (Nat.le_of_ble_eq_true rfl) dX8_labelOf_22 ⟨Nat.zero_le _, Nat.zero_le _⟩ ?_
    refine sp_callSe ⟨hx, hb, hml, hown, hts⟩ (kX8_lengthOf l r22) (va_cwS 1 hts gX8_labelOf_X8_lengthOf rfl rfl rfl hdX8_lengthOf.2 ⟨Nat.le_of_ble_eq_true rfl, Nat.le_of_ble_eq_true rfl⟩) rfl hl.1 rfl (Nat.le_of_ble_eq_true rfl) dX8_labelOf_25 ⟨Nat.zero_le _, Nat.zero_le _⟩ ?_
    refine lv_isub hx hb dX8_labelOf_28 ?_
    cases hm
    exact ro_iret hx hb hr rfl rfl dX8_labelOf_29 hlocks
  · rw [if_pos c1] at hm
    refine lv_iconst (v := 0) hx hb dX8_labelOf_4 (by decide) ?_
    refine lv_goto (tgt := 29) hx hb dX8_labelOf_5 (by decide) ?_
    cases hm
    exact ro_iret hx hb hr rfl rfl dX8_labelOf_29 hlocks
def mX8_whyNoMove (f_t_state : Nat → Int32) (p1 : Int32) : Option (Int32) :=
  (if p1 = 0 then
    some 1
  else
    ((mX8_prefixOf f_t_state p1).bind fun r9 =>
    ((mX8_findName f_t_state r9).bind fun r12 =>
    (if r12 = (-1) then
      ((mX8_childrenOf f_t_state p1).bind fun r23 =>
      (if r23 ≤ 1 then
        ((mX8_labelOf f_t_state p1).bind fun r34 =>
        ((mX8_labelOf f_t_state (p1 + 1)).bind fun r41 =>
        some (if (r34 + r41) ≤ (f_t_state 0) then (0 : Int32) else 4)))
      else
        some 3))
    else
      some 2))))
abbrev rmX8_whyNoMove : Room := { frames := 6, cells := 0, slots := 0, locals := 127 }
abbrev wX8_whyNoMove (cA : ClassId) (a_t a_t_state a_t_kept a_t_stack a_t_text : Nat) (v_t_thrown v_t_saved v_t_textLength v_t_place v_t_sign v_t_readLetters v_t_readLength v_t_readNumber : Int32) (f_t_state : Nat → Int32) : va_W := [(a_t, .inr (7, [.int v_t_thrown, .ref a_t_state, .ref a_t_kept, .ref a_t_stack, .int v_t_saved, .ref a_t_text, .int v_t_textLength, .int v_t_place, .int v_t_sign, .int v_t_readLetters, .int v_t_readLength, .int v_t_readNumber])), (a_t_state, .inl (cA, 255, .inl f_t_state))]
theorem iX8_whyNoMove_X8 : ∀ w ∈ wsX80, w ∈ wsX8_whyNoMove := (fun _ h => List.mem_cons_of_mem _ (List.mem_append_right _ h))
theorem hdX8_whyNoMove : yX8_whyNoMove.cls = RX8 ∧ yX8_whyNoMove.cls ≠ "java/lang/invoke/MethodHandle" ∧ yX8_whyNoMove.cls ≠ "java/lang/invoke/VarHandle" ∧ (parseMethodDescriptor yX8_whyNoMove.desc).map (fun d => d.parameters.length) = some 1 := by decide +kernel
set_option maxHeartbeats 4000000 in
set_option maxRecDepth 100000 in
theorem kX8_whyNoMove (l : Launch) (dC : Nat → ClassId) (dI : Nat → Nat → Nat) (cA : ClassId) (a_t a_t_state a_t_kept a_t_stack a_t_text : Nat) (v_t_thrown v_t_saved v_t_textLength v_t_place v_t_sign v_t_readLetters v_t_readLength v_t_readNumber : Int32) (f_t_state : Nat → Int32) (p1 r : Int32) (hm : (mX8_whyNoMove f_t_state p1) = some r) : Met l yX8_whyNoMove wsX8_whyNoMove rmX8_whyNoMove (rpc (dC, dI) [(cA, .int)] (wX8_whyNoMove cA a_t a_t_state a_t_kept a_t_stack a_t_text v_t_thrown v_t_saved v_t_textLength v_t_place v_t_sign v_t_readLetters v_t_readLength v_t_readNumber f_t_state) [.ref a_t, .int p1]) (vp_Si (fun x => x = r)) 0 0 (fun _ => False) := by
  unfold mX8_whyNoMove at hm
  refine ro_ofW (cc := cX8_whyNoMove) (maxL := 2) (ret := (some .int)) (own := RX8) (by decide) rfl rfl (Nat.le_of_ble_eq_true rfl) ?_
  intro p e s m args below meth c hx hb hr hts hown hlocks hml hP hK ls hl
  have hl : lv_has ls 2 [(0, .ref a_t), (1, .int p1)] := hl
  have hP : va_P (dC, dI) vwCl [(a_t, .inr (7, [.int v_t_thrown, .ref a_t_state, .ref a_t_kept, .ref a_t_stack, .int v_t_saved, .ref a_t_text, .int v_t_textLength, .int v_t_place, .int v_t_sign, .int v_t_readLetters, .int v_t_readLength, .int v_t_readNumber])), (a_t_state, .inl (cA, 255, .inl f_t_state))] s.heap := hP
  refine lv_iload_n hx hb dX8_whyNoMove_0 rfl (lv_at hl 1 rfl) ?_
  refine lv_if_ne (tgt := 6) hx hb dX8_whyNoMove_1 (by decide) (fun c1 => ?_) (fun c1 => ?_)
  · rw [if_neg c1] at hm
    refine lv_aload_n hx hb dX8_whyNoMove_6 rfl (lv_at hl 0 rfl) ?_
    refine lv_aload_n hx hb dX8_whyNoMove_7 rfl (lv_at hl 0 rfl) ?_
    refine lv_iload_n hx hb dX8_whyNoMove_8 rfl (lv_at hl 1 rfl) ?_
    obtain ⟨r9, e9, hm⟩ := bs hm
    try dsimp only at hm
    refine ro_callVe ⟨hx, hb, hml, hown, hts⟩ (kX8_prefixOf l dC dI cA a_t a_t_state a_t_kept a_t_stack a_t_text v_t_thrown v_t_saved v_t_textLength v_t_place v_t_sign v_t_readLetters v_t_readLength v_t_readNumber f_t_state p1 r9 e9) (cwV 1 hts gX8_whyNoMove_X8_prefixOf rfl rfl rfl hdX8_prefixOf ⟨Nat.le_of_ble_eq_true rfl, Nat.le_of_ble_eq_true rfl⟩) (hP.sub [0, 1] rfl) hK rfl rfl rfl hl.1 rfl (Nat.le_of_ble_eq_true rfl) dX8_whyNoMove_9 ⟨Nat.zero_le _, Nat.zero_le _⟩ ?_
    obtain ⟨r12, e12, hm⟩ := bs hm
    try dsimp only at hm
    refine ro_callVe ⟨hx, hb, hml, hown, hts⟩ (kX8_findName l dC dI cA a_t a_t_state a_t_kept a_t_stack a_t_text v_t_thrown v_t_saved v_t_textLength v_t_place v_t_sign v_t_readLetters v_t_readLength v_t_readNumber f_t_state r9 r12 e12) (cwV 1 hts gX8_whyNoMove_X8_findName rfl rfl rfl hdX8_findName ⟨Nat.le_of_ble_eq_true rfl, Nat.le_of_ble_eq_true rfl⟩) (hP.sub [0, 1] rfl) hK rfl rfl rfl hl.1 rfl (Nat.le_of_ble_eq_true rfl) dX8_whyNoMove_12 ⟨Nat.zero_le _, Nat.zero_le _⟩ ?_
    refine lv_iconst (v := (-1)) hx hb dX8_whyNoMove_15 (by decide) ?_
    refine lv_icmp_eq (tgt := 21) hx hb dX8_whyNoMove_16 (by decide) (fun c16 => ?_) (fun c16 => ?_)
    · rw [if_pos c16] at hm
      refine lv_aload_n hx hb dX8_whyNoMove_21 rfl (lv_at hl 0 rfl) ?_
      refine lv_iload_n hx hb dX8_whyNoMove_22 rfl (lv_at hl 1 rfl) ?_
      obtain ⟨r23, e23, hm⟩ := bs hm
      try dsimp only at hm
      refine ro_callVe ⟨hx, hb, hml, hown, hts⟩ (kX8_childrenOf l dC dI cA a_t a_t_state a_t_kept a_t_stack a_t_text v_t_thrown v_t_saved v_t_textLength v_t_place v_t_sign v_t_readLetters v_t_readLength v_t_readNumber f_t_state p1 r23 e23) (cwV 1 hts gX8_whyNoMove_X8_childrenOf rfl rfl rfl hdX8_childrenOf ⟨Nat.le_of_ble_eq_true rfl, Nat.le_of_ble_eq_true rfl⟩) (hP.sub [0, 1] rfl) hK rfl rfl rfl hl.1 rfl (Nat.le_of_ble_eq_true rfl) dX8_whyNoMove_23 ⟨Nat.zero_le _, Nat.zero_le _⟩ ?_
      refine lv_iconst (v := 1) hx hb dX8_whyNoMove_26 (by decide) ?_
      refine lv_icmp_le (tgt := 32) hx hb dX8_whyNoMove_27 (by decide) (fun c27 => ?_) (fun c27 => ?_)
      · rw [if_pos c27] at hm
        refine lv_aload_n hx hb dX8_whyNoMove_32 rfl (lv_at hl 0 rfl) ?_
        refine lv_iload_n hx hb dX8_whyNoMove_33 rfl (lv_at hl 1 rfl) ?_
        obtain ⟨r34, e34, hm⟩ := bs hm
        try dsimp only at hm
        refine ro_callVe ⟨hx, hb, hml, hown, hts⟩ (kX8_labelOf l dC dI cA a_t a_t_state a_t_kept a_t_stack a_t_text v_t_thrown v_t_saved v_t_textLength v_t_place v_t_sign v_t_readLetters v_t_readLength v_t_readNumber f_t_state p1 r34 e34) (cwV 1 hts gX8_whyNoMove_X8_labelOf rfl rfl rfl hdX8_labelOf ⟨Nat.le_of_ble_eq_true rfl, Nat.le_of_ble_eq_true rfl⟩) (hP.sub [0, 1] rfl) hK rfl rfl rfl hl.1 rfl (Nat.le_of_ble_eq_true rfl) dX8_whyNoMove_34 ⟨Nat.zero_le _, Nat.zero_le _⟩ ?_
        refine lv_aload_n hx hb dX8_whyNoMove_37 rfl (lv_at hl 0 rfl) ?_
        refine lv_iload_n hx hb dX8_whyNoMove_38 rfl (lv_at hl 1 rfl) ?_
        refine lv_iconst (v := 1) hx hb dX8_whyNoMove_39 (by decide) ?_
        refine lv_iadd hx hb dX8_whyNoMove_40 ?_
        obtain ⟨r41, e41, hm⟩ := bs hm
        try dsimp only at hm
        refine ro_callVe ⟨hx, hb, hml, hown, hts⟩ (kX8_labelOf l dC dI cA a_t a_t_state a_t_kept a_t_stack a_t_text v_t_thrown v_t_saved v_t_textLength v_t_place v_t_sign v_t_readLetters v_t_readLength v_t_readNumber f_t_state (p1 + 1) r41 e41) (cwV 1 hts gX8_whyNoMove_X8_labelOf rfl rfl rfl hdX8_labelOf ⟨Nat.le_of_ble_eq_true rfl, Nat.le_of_ble_eq_true rfl⟩) (hP.sub [0, 1] rfl) hK rfl rfl rfl hl.1 rfl (Nat.le_of_ble_eq_true rfl) dX8_whyNoMove_41 ⟨Nat.zero_le _, Nat.zero_le _⟩ ?_
        refine lv_iadd hx hb dX8_whyNoMove_44 ?_
        refine lv_aload_n hx hb dX8_whyNoMove_45 rfl (lv_at hl 0 rfl) ?_
        refine va_get (D := (dC, dI)) (ci := 7) (C := RX8) (T := TX8) (N := 12) hx hb hts iX8_whyNoMove_X8 hown hK hP 0 rfl rfl 1 (by decide) (hts _ (List.mem_of_getElem? (i := 1) rfl)) (fun _ h9 => h9) rfl dX8_whyNoMove_46 ?_
        refine lv_iconst (v := 0) hx hb dX8_whyNoMove_49 (by decide) ?_
        refine xa_ldK hx hb hK hP 1 0 rfl rfl 0 rfl (by decide) (by decide) dX8_whyNoMove_50 ?_
        refine lv_icmp_le (tgt := 58) hx hb dX8_whyNoMove_51 (by decide) (fun c51 => ?_) (fun c51 => ?_)
        · try simp only [if_pos c51] at hm
          refine lv_iconst (v := 0) hx hb dX8_whyNoMove_58 (by decide) ?_
          cases hm
          exact ro_iret hx hb hr rfl rfl dX8_whyNoMove_59 hlocks
        · try simp only [if_neg c51] at hm
          refine lv_iconst (v := 4) hx hb dX8_whyNoMove_54 (by decide) ?_
          refine lv_goto (tgt := 59) hx hb dX8_whyNoMove_55 (by decide) ?_
          cases hm
          exact ro_iret hx hb hr rfl rfl dX8_whyNoMove_59 hlocks
      · rw [if_neg c27] at hm
        refine lv_iconst (v := 3) hx hb dX8_whyNoMove_30 (by decide) ?_
        cases hm
        exact ro_iret hx hb hr rfl rfl dX8_whyNoMove_31 hlocks
    · rw [if_neg c16] at hm
      refine lv_iconst (v := 2) hx hb dX8_whyNoMove_19 (by decide) ?_
      cases hm
      exact ro_iret hx hb hr rfl rfl dX8_whyNoMove_20 hlocks
  · rw [if_pos c1] at hm
    refine lv_iconst (v := 1) hx hb dX8_whyNoMove_4 (by decide) ?_
    cases hm
    exact ro_iret hx hb hr rfl rfl dX8_whyNoMove_5 hlocks
def mX8_longestPrefix_L5 (f_t_state : Nat → Int32) (x1_5 : Int32) : Nat → (Int32) → Option (Int32)
  | 0, _ => none
  | n + 1, x2_5 =>
    ((mX8_isInTown f_t_state (mX8_shortened x1_5 x2_5)).bind fun r11 =>
    (if r11 = 0 then
      mX8_longestPrefix_L5 f_t_state x1_5 n (x2_5 + (-1))
    else
      some x2_5))
def mX8_longestPrefix (f_t_state : Nat → Int32) (p1 : Int32) : Option (Int32) :=
  ((mX8_longestPrefix_L5 f_t_state p1 FU (mX8_lengthOf p1)).bind fun y2_5 =>
  some y2_5)
abbrev rmX8_longestPrefix : Room := { frames := 6, cells := 0, slots := 0, locals := 126 }
abbrev wX8_longestPrefix (cA : ClassId) (a_t a_t_state a_t_kept a_t_stack a_t_text : Nat) (v_t_thrown v_t_saved v_t_textLength v_t_place v_t_sign v_t_readLetters v_t_readLength v_t_readNumber : Int32) (f_t_state : Nat → Int32) : va_W := [(a_t, .inr (7, [.int v_t_thrown, .ref a_t_state, .ref a_t_kept, .ref a_t_stack, .int v_t_saved, .ref a_t_text, .int v_t_textLength, .int v_t_place, .int v_t_sign, .int v_t_readLetters, .int v_t_readLength, .int v_t_readNumber])), (a_t_state, .inl (cA, 255, .inl f_t_state))]
theorem hdX8_longestPrefix : yX8_longestPrefix.cls = RX8 ∧ yX8_longestPrefix.cls ≠ "java/lang/invoke/MethodHandle" ∧ yX8_longestPrefix.cls ≠ "java/lang/invoke/VarHandle" ∧ (parseMethodDescriptor yX8_longestPrefix.desc).map (fun d => d.parameters.length) = some 1 := by decide +kernel
set_option maxHeartbeats 4000000 in
set_option maxRecDepth 100000 in
theorem wX8_longestPrefix_L5 {p : Program} {l : Launch} {e : Env} {s : State} {m : MethodId} {args : Array Value} {below : List Frame} {meth : Method} {c : Code} {Q : State → Prop} {H : Heap} (dC : Nat → ClassId) (dI : Nat → Nat → Nat) (cA : ClassId) (a_t a_t_state a_t_kept a_t_stack a_t_text : Nat) (v_t_thrown v_t_saved v_t_textLength v_t_place v_t_sign v_t_readLetters v_t_readLength v_t_readNumber : Int32) (f_t_state : Nat → Int32) (p1 x1_5 y2_5 : Int32) (hx : p.tables.exec = Jvm.exec) (hb : c.code = cX8_longestPrefix) (hml : c.maxLocals = 3) (hown : s.vm.findClass RX8 = some m.cls) (hts : ∀ w ∈ wsX8_longestPrefix, w.before args s = true) (hK : va_K (dC, dI) vwCl [(cA, .int)] s) (hP : va_P (dC, dI) vwCl [(a_t, .inr (7, [.int v_t_thrown, .ref a_t_state, .ref a_t_kept, .ref a_t_stack, .int v_t_saved, .ref a_t_text, .int v_t_textLength, .int v_t_place, .int v_t_sign, .int v_t_readLetters, .int v_t_readLength, .int v_t_readNumber])), (a_t_state, .inl (cA, 255, .inl f_t_state))] H)
    (kk0 : ∀ ls : Array Slot, lv_has ls 3 [(0, .ref a_t), (1, .int x1_5), (2, .int y2_5)] → W p l e (headSpec wsX8_longestPrefix rmX8_longestPrefix).room s m args below meth c H [] 0 0 Q (F0 m 23 ls [])) :
    ∀ (n : Nat) (x2_5 : Int32), mX8_longestPrefix_L5 f_t_state x1_5 n x2_5 = some y2_5 → ∀ ls : Array Slot, lv_has ls 3 [(0, .ref a_t), (1, .int x1_5), (2, .int x2_5)] → W p l e (headSpec wsX8_longestPrefix rmX8_longestPrefix).room s m args below meth c H [] 0 0 Q (F0 m 5 ls []) := by
  intro n
  induction n with
  | zero =>
    intro x2_5 hm
    cases hm
  | succ n ih =>
    intro x2_5 hm ls hl
    rw [mX8_longestPrefix_L5] at hm
    refine lv_aload_n hx hb dX8_longestPrefix_5 rfl (lv_at hl 0 rfl) ?_
    refine lv_iload_n hx hb dX8_longestPrefix_6 rfl (lv_at hl 1 rfl) ?_
    refine lv_iload_n hx hb dX8_longestPrefix_7 rfl (lv_at hl 2 rfl) ?_
    refine sp_callSe ⟨hx, hb, hml, hown, hts⟩ (kX8_shortened l x1_5 x2_5) (va_cwS 2 hts gX8_longestPrefix_X8_shortened rfl rfl rfl hdX8_shortened.2 ⟨Nat.le_of_ble_eq_true rfl, Nat.le_of_ble_eq_true rfl⟩) rfl hl.1 rfl (Nat.le_of_ble_eq_true rfl) dX8_longestPrefix_8 ⟨Nat.zero_le _, Nat.zero_le _⟩ ?_
    obtain ⟨r11, e11, hm⟩ := bs hm
    try dsimp only at hm
    refine ro_callVz ⟨hx, hb, hml, hown, hts⟩ (kX8_isInTown l dC dI cA a_t a_t_state a_t_kept a_t_stack a_t_text v_t_thrown v_t_saved v_t_textLength v_t_place v_t_sign v_t_readLetters v_t_readLength v_t_readNumber f_t_state (mX8_shortened x1_5 x2_5) r11 e11) (cwV 1 hts gX8_longestPrefix_X8_isInTown rfl rfl rfl hdX8_isInTown ⟨Nat.le_of_ble_eq_true rfl, Nat.le_of_ble_eq_true rfl⟩) (hP.sub [0, 1] rfl) hK rfl rfl rfl hl.1 rfl (Nat.le_of_ble_eq_true rfl) dX8_longestPrefix_11 ⟨Nat.zero_le _, Nat.zero_le _⟩ (fun hb11 => ?_)
    refine lv_if_ne (tgt := 23) hx hb dX8_longestPrefix_14 (by decide) (fun c14 => ?_) (fun c14 => ?_)
    · rw [if_neg c14] at hm
      cases hm
      exact kk0 _ (lv_sub hl [0, 1, 2] rfl)
    · rw [if_pos c14] at hm
      refine lv_iinc (v := (x2_5 + (-1))) (lv' := [(2, .int (x2_5 + (-1))), (0, .ref a_t), (1, .int x1_5)]) hx hb dX8_longestPrefix_17 hl (k := 2) rfl rfl (by decide) rfl (fun ls hl => ?_)
      refine lv_goto (tgt := 5) hx hb dX8_longestPrefix_20 (by decide) ?_
      exact ih _ hm _ (lv_sub hl [1, 2, 0] rfl)
set_option maxHeartbeats 4000000 in
set_option maxRecDepth 100000 in
theorem kX8_longestPrefix (l : Launch) (dC : Nat → ClassId) (dI : Nat → Nat → Nat) (cA : ClassId) (a_t a_t_state a_t_kept a_t_stack a_t_text : Nat) (v_t_thrown v_t_saved v_t_textLength v_t_place v_t_sign v_t_readLetters v_t_readLength v_t_readNumber : Int32) (f_t_state : Nat → Int32) (p1 r : Int32) (hm : (mX8_longestPrefix f_t_state p1) = some r) : Met l yX8_longestPrefix wsX8_longestPrefix rmX8_longestPrefix (rpc (dC, dI) [(cA, .int)] (wX8_longestPrefix cA a_t a_t_state a_t_kept a_t_stack a_t_text v_t_thrown v_t_saved v_t_textLength v_t_place v_t_sign v_t_readLetters v_t_readLength v_t_readNumber f_t_state) [.ref a_t, .int p1]) (vp_Si (fun x => x = r)) 0 0 (fun _ => False) := by
  unfold mX8_longestPrefix at hm
  refine ro_ofW (cc := cX8_longestPrefix) (maxL := 3) (ret := (some .int)) (own := RX8) (by decide) rfl rfl (Nat.le_of_ble_eq_true rfl) ?_
  intro p e s m args below meth c hx hb hr hts hown hlocks hml hP hK ls hl
  have hl : lv_has ls 3 [(0, .ref a_t), (1, .int p1)] := hl
  have hP : va_P (dC, dI) vwCl [(a_t, .inr (7, [.int v_t_thrown, .ref a_t_state, .ref a_t_kept, .ref a_t_stack, .int v_t_saved, .ref a_t_text, .int v_t_textLength, .int v_t_place, .int v_t_sign, .int v_t_readLetters, .int v_t_readLength, .int v_t_readNumber])), (a_t_state, .inl (cA, 255, .inl f_t_state))] s.heap := hP
  refine lv_iload_n hx hb dX8_longestPrefix_0 rfl (lv_at hl 1 rfl) ?_
  refine sp_callSe ⟨hx, hb, hml, hown, hts⟩ (kX8_lengthOf l p1) (va_cwS 1 hts gX8_longestPrefix_X8_lengthOf rfl rfl rfl hdX8_lengthOf.2 ⟨Nat.le_of_ble_eq_true rfl, Nat.le_of_ble_eq_true rfl⟩) rfl hl.1 rfl (Nat.le_of_ble_eq_true rfl) dX8_longestPrefix_1 ⟨Nat.zero_le _, Nat.zero_le _⟩ ?_
  refine lv_istore_n (lv' := [(2, .int (mX8_lengthOf p1)), (0, .ref a_t), (1, .int p1)]) hx hb dX8_longestPrefix_4 rfl hl (by decide) rfl (fun ls hl => ?_)
  obtain ⟨y2_5, e5, hm⟩ := bs hm
  try dsimp only at hm
  refine wX8_longestPrefix_L5 dC dI cA a_t a_t_state a_t_kept a_t_stack a_t_text v_t_thrown v_t_saved v_t_textLength v_t_place v_t_sign v_t_readLetters v_t_readLength v_t_readNumber f_t_state p1 p1 y2_5 hx hb hml hown hts hK (hP.sub [0, 1] rfl) ?_ FU _ e5 _ (lv_sub hl [1, 2, 0] rfl)
  · intro ls hl
    refine lv_iload_n hx hb dX8_longestPrefix_23 rfl (lv_at hl 2 rfl) ?_
    cases hm
    exact ro_iret hx hb hr rfl rfl dX8_longestPrefix_24 hlocks
def mX8_whyNotAdded (f_t_state : Nat → Int32) (p1 : Int32) (p2 : Int32) (p3 : Int32) : Option (Int32) :=
  (if (mX8_isPrefix p1 p2 1) = 0 then
    some 1
  else
    (if (mX8_within p3 0 99) = 0 then
      some 1
    else
      ((mX8_findName f_t_state (mX8_code p1 p2)).bind fun r27 =>
      some (if r27 = (-1) then (if (f_t_state 1) = 24 then (2 : Int32) else 0) else 2))))
abbrev rmX8_whyNotAdded : Room := { frames := 3, cells := 0, slots := 0, locals := 66 }
abbrev wX8_whyNotAdded (cA : ClassId) (a_t a_t_state a_t_kept a_t_stack a_t_text : Nat) (v_t_thrown v_t_saved v_t_textLength v_t_place v_t_sign v_t_readLetters v_t_readLength v_t_readNumber : Int32) (f_t_state : Nat → Int32) : va_W := [(a_t, .inr (7, [.int v_t_thrown, .ref a_t_state, .ref a_t_kept, .ref a_t_stack, .int v_t_saved, .ref a_t_text, .int v_t_textLength, .int v_t_place, .int v_t_sign, .int v_t_readLetters, .int v_t_readLength, .int v_t_readNumber])), (a_t_state, .inl (cA, 255, .inl f_t_state))]
theorem iX8_whyNotAdded_X8 : ∀ w ∈ wsX80, w ∈ wsX8_whyNotAdded := (fun _ h => List.mem_cons_of_mem _ (List.mem_append_right _ h))
theorem hdX8_whyNotAdded : yX8_whyNotAdded.cls = RX8 ∧ yX8_whyNotAdded.cls ≠ "java/lang/invoke/MethodHandle" ∧ yX8_whyNotAdded.cls ≠ "java/lang/invoke/VarHandle" ∧ (parseMethodDescriptor yX8_whyNotAdded.desc).map (fun d => d.parameters.length) = some 3 := by decide +kernel
set_option maxHeartbeats 4000000 in
set_option maxRecDepth 100000 in
theorem kX8_whyNotAdded (l : Launch) (dC : Nat → ClassId) (dI : Nat → Nat → Nat) (cA : ClassId) (a_t a_t_state a_t_kept a_t_stack a_t_text : Nat) (v_t_thrown v_t_saved v_t_textLength v_t_place v_t_sign v_t_readLetters v_t_readLength v_t_readNumber : Int32) (f_t_state : Nat → Int32) (p1 p2 p3 r : Int32) (hm : (mX8_whyNotAdded f_t_state p1 p2 p3) = some r) : Met l yX8_whyNotAdded wsX8_whyNotAdded rmX8_whyNotAdded (rpc (dC, dI) [(cA, .int)] (wX8_whyNotAdded cA a_t a_t_state a_t_kept a_t_stack a_t_text v_t_thrown v_t_saved v_t_textLength v_t_place v_t_sign v_t_readLetters v_t_readLength v_t_readNumber f_t_state) [.ref a_t, .int p1, .int p2, .int p3]) (vp_Si (fun x => x = r)) 0 0 (fun _ => False) := by
  unfold mX8_whyNotAdded at hm
  refine ro_ofW (cc := cX8_whyNotAdded) (maxL := 4) (ret := (some .int)) (own := RX8) (by decide) rfl rfl (Nat.le_of_ble_eq_true rfl) ?_
  intro p e s m args below meth c hx hb hr hts hown hlocks hml hP hK ls hl
  have hl : lv_has ls 4 [(0, .ref a_t), (1, .int p1), (2, .int p2), (3, .int p3)] := hl
  have hP : va_P (dC, dI) vwCl [(a_t, .inr (7, [.int v_t_thrown, .ref a_t_state, .ref a_t_kept, .ref a_t_stack, .int v_t_saved, .ref a_t_text, .int v_t_textLength, .int v_t_place, .int v_t_sign, .int v_t_readLetters, .int v_t_readLength, .int v_t_readNumber])), (a_t_state, .inl (cA, 255, .inl f_t_state))] s.heap := hP
  refine lv_iload_n hx hb dX8_whyNotAdded_0 rfl (lv_at hl 1 rfl) ?_
  refine lv_iload_n hx hb dX8_whyNotAdded_1 rfl (lv_at hl 2 rfl) ?_
  refine lv_iconst (v := 1) hx hb dX8_whyNotAdded_2 (by decide) ?_
  refine sp_callSz ⟨hx, hb, hml, hown, hts⟩ (kX8_isPrefix l p1 p2 1) (va_cwS 3 hts gX8_whyNotAdded_X8_isPrefix rfl rfl rfl hdX8_isPrefix.2 ⟨Nat.le_of_ble_eq_true rfl, Nat.le_of_ble_eq_true rfl⟩) rfl hl.1 rfl (Nat.le_of_ble_eq_true rfl) dX8_whyNotAdded_3 ⟨Nat.zero_le _, Nat.zero_le _⟩ (fun hb3 => ?_)
  refine lv_if_eq (tgt := 19) hx hb dX8_whyNotAdded_6 (by decide) (fun c6 => ?_) (fun c6 => ?_)
  · rw [if_pos c6] at hm
    refine lv_iconst (v := 1) hx hb dX8_whyNotAdded_19 (by decide) ?_
    cases hm
    exact ro_iret hx hb hr rfl rfl dX8_whyNotAdded_20 hlocks
  · rw [if_neg c6] at hm
    refine lv_iload_n hx hb dX8_whyNotAdded_9 rfl (lv_at hl 3 rfl) ?_
    refine lv_iconst (v := 0) hx hb dX8_whyNotAdded_10 (by decide) ?_
    refine lv_bipush (v := 99) hx hb dX8_whyNotAdded_11 (by decide) ?_
    refine sp_callSz ⟨hx, hb, hml, hown, hts⟩ (kX8_within l p3 0 99) (va_cwS 3 hts gX8_whyNotAdded_X8_within rfl rfl rfl hdX8_within.2 ⟨Nat.le_of_ble_eq_true rfl, Nat.le_of_ble_eq_true rfl⟩) rfl hl.1 rfl (Nat.le_of_ble_eq_true rfl) dX8_whyNotAdded_13 ⟨Nat.zero_le _, Nat.zero_le _⟩ (fun hb13 => ?_)
    refine lv_if_ne (tgt := 21) hx hb dX8_whyNotAdded_16 (by decide) (fun c16 => ?_) (fun c16 => ?_)
    · rw [if_neg c16] at hm
      refine lv_aload_n hx hb dX8_whyNotAdded_21 rfl (lv_at hl 0 rfl) ?_
      refine lv_iload_n hx hb dX8_whyNotAdded_22 rfl (lv_at hl 1 rfl) ?_
      refine lv_iload_n hx hb dX8_whyNotAdded_23 rfl (lv_at hl 2 rfl) ?_
      refine sp_callSe ⟨hx, hb, hml, hown, hts⟩ (kX8_code l p1 p2) (va_cwS 2 hts gX8_whyNotAdded_X8_code rfl rfl rfl hdX8_code.2 ⟨Nat.le_of_ble_eq_true rfl, Nat.le_of_ble_eq_true rfl⟩) rfl hl.1 rfl (Nat.le_of_ble_eq_true rfl) dX8_whyNotAdded_24 ⟨Nat.zero_le _, Nat.zero_le _⟩ ?_
      obtain ⟨r27, e27, hm⟩ := bs hm
      try dsimp only at hm
      refine ro_callVe ⟨hx, hb, hml, hown, hts⟩ (kX8_findName l dC dI cA a_t a_t_state a_t_kept a_t_stack a_t_text v_t_thrown v_t_saved v_t_textLength v_t_place v_t_sign v_t_readLetters v_t_readLength v_t_readNumber f_t_state (mX8_code p1 p2) r27 e27) (cwV 1 hts gX8_whyNotAdded_X8_findName rfl rfl rfl hdX8_findName ⟨Nat.le_of_ble_eq_true rfl, Nat.le_of_ble_eq_true rfl⟩) (hP.sub [0, 1] rfl) hK rfl rfl rfl hl.1 rfl (Nat.le_of_ble_eq_true rfl) dX8_whyNotAdded_27 ⟨Nat.zero_le _, Nat.zero_le _⟩ ?_
      refine lv_iconst (v := (-1)) hx hb dX8_whyNotAdded_30 (by decide) ?_
      refine lv_icmp_ne (tgt := 45) hx hb dX8_whyNotAdded_31 (by decide) (fun c31 => ?_) (fun c31 => ?_)
      · try simp only [if_neg c31] at hm
        refine lv_iconst (v := 2) hx hb dX8_whyNotAdded_45 (by decide) ?_
        refine lv_goto (tgt := 50) hx hb dX8_whyNotAdded_46 (by decide) ?_
        cases hm
        exact ro_iret hx hb hr rfl rfl dX8_whyNotAdded_50 hlocks
      · try simp only [if_pos c31] at hm
        refine lv_aload_n hx hb dX8_whyNotAdded_34 rfl (lv_at hl 0 rfl) ?_
        refine va_get (D := (dC, dI)) (ci := 7) (C := RX8) (T := TX8) (N := 12) hx hb hts iX8_whyNotAdded_X8 hown hK hP 0 rfl rfl 1 (by decide) (hts _ (List.mem_of_getElem? (i := 1) rfl)) (fun _ h9 => h9) rfl dX8_whyNotAdded_35 ?_
        refine lv_iconst (v := 1) hx hb dX8_whyNotAdded_38 (by decide) ?_
        refine xa_ldK hx hb hK hP 1 0 rfl rfl 1 rfl (by decide) (by decide) dX8_whyNotAdded_39 ?_
        refine lv_bipush (v := 24) hx hb dX8_whyNotAdded_40 (by decide) ?_
        refine lv_icmp_ne (tgt := 49) hx hb dX8_whyNotAdded_42 (by decide) (fun c42 => ?_) (fun c42 => ?_)
        · try simp only [if_neg c42] at hm
          refine lv_iconst (v := 0) hx hb dX8_whyNotAdded_49 (by decide) ?_
          cases hm
          exact ro_iret hx hb hr rfl rfl dX8_whyNotAdded_50 hlocks
        · try simp only [if_pos c42] at hm
          refine lv_iconst (v := 2) hx hb dX8_whyNotAdded_45 (by decide) ?_
          refine lv_goto (tgt := 50) hx hb dX8_whyNotAdded_46 (by decide) ?_
          cases hm
          exact ro_iret hx hb hr rfl rfl dX8_whyNotAdded_50 hlocks
    · rw [if_pos c16] at hm
      refine lv_iconst (v := 1) hx hb dX8_whyNotAdded_19 (by decide) ?_
      cases hm
      exact ro_iret hx hb hr rfl rfl dX8_whyNotAdded_20 hlocks
