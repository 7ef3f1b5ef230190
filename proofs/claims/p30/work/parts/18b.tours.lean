def mL_tours_L27 (f_na : Nat → Int32) (x6_27 : Int32) : Nat → (Int32) → (Int32) → Option (Int32 × Int32)
  | 0, _, _ => none
  | n + 1, x7_27, x8_27 =>
    (if 15 ≤ x8_27 then
      some (x7_27, x8_27)
    else
      ((rdA 15 f_na x8_27).bind fun r37 =>
      (if r37 = 1 then
        ((mL_rank f_na x8_27).bind fun r45 =>
        mL_tours_L27 f_na x6_27 n (if r45 = x6_27 then x8_27 else x7_27) (x8_27 + 1))
      else
        mL_tours_L27 f_na x6_27 n x7_27 (x8_27 + 1))))
def mL_tours_J119 (f_ho : Nat → Int32) (x5_119 : Int32) (x7_119 : Int32) (x4_119 : Int32) (x6_119 : Int32) (rec9 : Int32 → Int32 → Int32 → Option (Int32 × Int32 × Int32)) : Option (Int32 × Int32 × Int32) :=
  ((mL_between f_ho x5_119 x7_119).bind fun r126 =>
  rec9 (x4_119 + r126) x7_119 (x6_119 + 1))
def mL_tours_J68 (x6_68 : Int32) (f_ho : Nat → Int32) (x5_68 : Int32) (x7_68 : Int32) (x4_68 : Int32) (f_o_town_parents_cells : Nat → Int32) (f_o_town_namesIn_cells : Nat → Int32) (f_o_town_homes_cells : Nat → Int32) (rec9 : Int32 → Int32 → Int32 → Option (Int32 × Int32 × Int32)) : Option (Int32 × Int32 × Int32) :=
  (if x6_68 ≤ 0 then
    mL_tours_J119 f_ho x5_68 x7_68 x4_68 x6_68 rec9
  else
    ((mX7_between_n f_o_town_parents_cells f_o_town_namesIn_cells f_o_town_homes_cells (x6_68 - 1) x6_68).bind fun r80 =>
    ((mL_between f_ho x5_68 x7_68).bind fun r88 =>
    (if r80 = r88 then
      ((mX7_between_n f_o_town_parents_cells f_o_town_namesIn_cells f_o_town_homes_cells x6_68 (x6_68 - 1)).bind fun r101 =>
      ((mX7_between_n f_o_town_parents_cells f_o_town_namesIn_cells f_o_town_homes_cells (x6_68 - 1) x6_68).bind fun r111 =>
      (if r101 = r111 then
        mL_tours_J119 f_ho x5_68 x7_68 x4_68 x6_68 rec9
      else
        none)))
    else
      none))))
def mL_tours_L15 (x3_15 : Int32) (f_na : Nat → Int32) (f_ho : Nat → Int32) (f_o_town_parents_cells : Nat → Int32) (f_o_town_namesIn_cells : Nat → Int32) (f_o_town_homes_cells : Nat → Int32) : Nat → (Int32) → (Int32) → (Int32) → Option (Int32 × Int32 × Int32)
  | 0, _, _, _ => none
  | n + 1, x4_15, x5_15, x6_15 =>
    (if x3_15 ≤ x6_15 then
      some (x4_15, x5_15, x6_15)
    else
      ((mL_tours_L27 f_na x6_15 FU 0 1).bind fun (y7_27, y8_27) =>
      mL_tours_J68 x6_15 f_ho x5_15 y7_27 x4_15 f_o_town_parents_cells f_o_town_namesIn_cells f_o_town_homes_cells (mL_tours_L15 x3_15 f_na f_ho f_o_town_parents_cells f_o_town_namesIn_cells f_o_town_homes_cells n)))
def mL_tours (v_o_town_state_houses : Int32) (v_o_town_state_limit : Int32) (v_o_town_state_movedIn : Int32) (v_o_town_state_evicted : Int32) (v_o_town_state_built : Int32) (v_o_town_state_tornDown : Int32) (f_o_town_state_keys_cells : Nat → Int32) (f_o_town_state_weights_cells : Nat → Int32) (f_o_town_parents_cells : Nat → Int32) (f_o_town_roads_cells : Nat → Int32) (f_o_town_namesIn_cells : Nat → Int32) (f_o_town_homes_cells : Nat → Int32) (v_o_text_length : Int32) (f_na : Nat → Int32) (f_ho : Nat → Int32) : Option (Int32) :=
  ((mX7_whole_n v_o_town_state_houses v_o_town_state_limit v_o_town_state_movedIn v_o_town_state_evicted v_o_town_state_built v_o_town_state_tornDown f_o_town_state_keys_cells f_o_town_state_weights_cells f_o_town_parents_cells f_o_town_roads_cells f_o_town_namesIn_cells f_o_town_homes_cells v_o_text_length 0).bind fun r2 =>
  ((mL_tours_L15 r2 f_na f_ho f_o_town_parents_cells f_o_town_namesIn_cells f_o_town_homes_cells FU 0 0 0).bind fun (y4_15, y5_15, y6_15) =>
  ((mL_between f_ho y5_15 0).bind fun r152 =>
  (if (mX7_tour v_o_town_state_houses) = (y4_15 + r152) then
    some 1
  else
    none))))
abbrev rmL_tours : Room := { frames := 6, cells := 0, slots := 0, locals := 128 }
abbrev wL_tours (cA : ClassId) (a_o a_o_town a_o_trial a_o_saves a_o_text a_o_reader a_o_town_state a_o_town_parents a_o_town_children a_o_town_roads a_o_town_namesIn a_o_town_weightIn a_o_town_homes a_o_town_leaving a_o_town_state_keys a_o_town_state_weights a_o_town_state_keys_cells a_o_town_state_weights_cells a_o_town_parents_cells a_o_town_roads_cells a_o_town_namesIn_cells a_o_town_homes_cells a_o_text_signs a_na a_ho : Nat) (v_o_town_state_houses v_o_town_state_limit v_o_town_state_movedIn v_o_town_state_evicted v_o_town_state_built v_o_town_state_tornDown : Int32) (f_o_town_state_keys_cells f_o_town_state_weights_cells f_o_town_parents_cells f_o_town_roads_cells f_o_town_namesIn_cells f_o_town_homes_cells : Nat → Int32) (v_o_text_length : Int32) (f_na f_ho : Nat → Int32) : va_W := [(a_o, .inr (6, [.ref a_o_town, .ref a_o_trial, .ref a_o_saves, .ref a_o_text, .ref a_o_reader])), (a_o_town, .inr (4, [.ref a_o_town_state, .ref a_o_town_parents, .ref a_o_town_children, .ref a_o_town_roads, .ref a_o_town_namesIn, .ref a_o_town_weightIn, .ref a_o_town_homes, .ref a_o_town_leaving])), (a_o_town_state, .inr (3, [.ref a_o_town_state_keys, .ref a_o_town_state_weights, .int v_o_town_state_houses, .int v_o_town_state_limit, .int v_o_town_state_movedIn, .int v_o_town_state_evicted, .int v_o_town_state_built, .int v_o_town_state_tornDown])), (a_o_town_state_keys, .inr (2, [.ref a_o_town_state_keys_cells])), (a_o_town_state_keys_cells, .inl (cA, 193, .inl f_o_town_state_keys_cells)), (a_o_town_state_weights, .inr (2, [.ref a_o_town_state_weights_cells])), (a_o_town_state_weights_cells, .inl (cA, 193, .inl f_o_town_state_weights_cells)), (a_o_town_parents, .inr (2, [.ref a_o_town_parents_cells])), (a_o_town_parents_cells, .inl (cA, 193, .inl f_o_town_parents_cells)), (a_o_town_roads, .inr (2, [.ref a_o_town_roads_cells])), (a_o_town_roads_cells, .inl (cA, 193, .inl f_o_town_roads_cells)), (a_o_town_namesIn, .inr (2, [.ref a_o_town_namesIn_cells])), (a_o_town_namesIn_cells, .inl (cA, 193, .inl f_o_town_namesIn_cells)), (a_o_town_homes, .inr (2, [.ref a_o_town_homes_cells])), (a_o_town_homes_cells, .inl (cA, 24, .inl f_o_town_homes_cells)), (a_o_text, .inr (1, [.ref a_o_text_signs, .int v_o_text_length])), (a_na, .inl (cA, 15, .inl f_na)), (a_ho, .inl (cA, 15, .inl f_ho))]
theorem hdL_tours : yL_tours.cls = RL ∧ yL_tours.cls ≠ "java/lang/invoke/MethodHandle" ∧ yL_tours.cls ≠ "java/lang/invoke/VarHandle" ∧ (parseMethodDescriptor yL_tours.desc).map (fun d => d.parameters.length) = some 3 := by decide +kernel
set_option maxHeartbeats 4000000 in
set_option maxRecDepth 100000 in
theorem wL_tours_L27 {p : Program} {l : Launch} {e : Env} {s : State} {m : MethodId} {args : Array Value} {below : List Frame} {meth : Method} {c : Code} {Q : State → Prop} {H : Heap} (dC : Nat → ClassId) (dI : Nat → Nat → Nat) (cA : ClassId) (a_o a_o_town a_o_trial a_o_saves a_o_text a_o_reader a_o_town_state a_o_town_parents a_o_town_children a_o_town_roads a_o_town_namesIn a_o_town_weightIn a_o_town_homes a_o_town_leaving a_o_town_state_keys a_o_town_state_weights a_o_town_state_keys_cells a_o_town_state_weights_cells a_o_town_parents_cells a_o_town_roads_cells a_o_town_namesIn_cells a_o_town_homes_cells a_o_text_signs a_na a_ho : Nat) (v_o_town_state_houses v_o_town_state_limit v_o_town_state_movedIn v_o_town_state_evicted v_o_town_state_built v_o_town_state_tornDown : Int32) (f_o_town_state_keys_cells f_o_town_state_weights_cells f_o_town_parents_cells f_o_town_roads_cells f_o_town_namesIn_cells f_o_town_homes_cells : Nat → Int32) (v_o_text_length : Int32) (f_na f_ho : Nat → Int32) (x3_27 x4_27 x5_27 x6_27 y7_27 y8_27 : Int32) (hx : p.tables.exec = Jvm.exec) (hb : c.code = cL_tours) (hml : c.maxLocals = 9) (hown : s.vm.findClass RL = some m.cls) (hts : ∀ w ∈ wsL_tours, w.before args s = true) (hK : va_K (dC, dI) vwCl [(cA, .int)] s) (hP : va_P (dC, dI) vwCl [(a_o, .inr (6, [.ref a_o_town, .ref a_o_trial, .ref a_o_saves, .ref a_o_text, .ref a_o_reader])), (a_o_town, .inr (4, [.ref a_o_town_state, .ref a_o_town_parents, .ref a_o_town_children, .ref a_o_town_roads, .ref a_o_town_namesIn, .ref a_o_town_weightIn, .ref a_o_town_homes, .ref a_o_town_leaving])), (a_o_town_state, .inr (3, [.ref a_o_town_state_keys, .ref a_o_town_state_weights, .int v_o_town_state_houses, .int v_o_town_state_limit, .int v_o_town_state_movedIn, .int v_o_town_state_evicted, .int v_o_town_state_built, .int v_o_town_state_tornDown])), (a_o_town_state_keys, .inr (2, [.ref a_o_town_state_keys_cells])), (a_o_town_state_keys_cells, .inl (cA, 193, .inl f_o_town_state_keys_cells)), (a_o_town_state_weights, .inr (2, [.ref a_o_town_state_weights_cells])), (a_o_town_state_weights_cells, .inl (cA, 193, .inl f_o_town_state_weights_cells)), (a_o_town_parents, .inr (2, [.ref a_o_town_parents_cells])), (a_o_town_parents_cells, .inl (cA, 193, .inl f_o_town_parents_cells)), (a_o_town_roads, .inr (2, [.ref a_o_town_roads_cells])), (a_o_town_roads_cells, .inl (cA, 193, .inl f_o_town_roads_cells)), (a_o_town_namesIn, .inr (2, [.ref a_o_town_namesIn_cells])), (a_o_town_namesIn_cells, .inl (cA, 193, .inl f_o_town_namesIn_cells)), (a_o_town_homes, .inr (2, [.ref a_o_town_homes_cells])), (a_o_town_homes_cells, .inl (cA, 24, .inl f_o_town_homes_cells)), (a_o_text, .inr (1, [.ref a_o_text_signs, .int v_o_text_length])), (a_na, .inl (cA, 15, .inl f_na)), (a_ho, .inl (cA, 15, .inl f_ho))] H)
    (kk0 : ∀ ls : Array Slot, lv_has ls 9 [(0, .ref a_o), (1, .ref a_na), (2, .ref a_ho), (3, .int x3_27), (4, .int x4_27), (5, .int x5_27), (6, .int x6_27), (7, .int y7_27), (8, .int y8_27)] → W p l e (headSpec wsL_tours rmL_tours).room s m args below meth c H [] 0 0 Q (F0 m 68 ls [])) :
    ∀ (n : Nat) (x7_27 x8_27 : Int32), mL_tours_L27 f_na x6_27 n x7_27 x8_27 = some (y7_27, y8_27) → ∀ ls : Array Slot, lv_has ls 9 [(0, .ref a_o), (1, .ref a_na), (2, .ref a_ho), (3, .int x3_27), (4, .int x4_27), (5, .int x5_27), (6, .int x6_27), (7, .int x7_27), (8, .int x8_27)] → W p l e (headSpec wsL_tours rmL_tours).room s m args below meth c H [] 0 0 Q (F0 m 27 ls []) := by
  intro n
  induction n with
  | zero =>
    intro x7_27 x8_27 hm
    cases hm
  | succ n ih =>
    intro x7_27 x8_27 hm ls hl
    rw [mL_tours_L27] at hm
    refine lv_iload hx hb dL_tours_27 (lv_at hl 8 rfl) ?_
    refine lv_bipush (v := 15) hx hb dL_tours_29 (by decide) ?_
    refine lv_icmp_ge (tgt := 68) hx hb dL_tours_31 (by decide) (fun c31 => ?_) (fun c31 => ?_)
    · rw [if_pos c31] at hm
      cases hm
      exact kk0 _ (lv_sub hl [0, 1, 2, 3, 4, 5, 6, 7, 8] rfl)
    · rw [if_neg c31] at hm
      refine lv_aload_n hx hb dL_tours_34 rfl (lv_at hl 1 rfl) ?_
      refine lv_iload hx hb dL_tours_35 (lv_at hl 8 rfl) ?_
      obtain ⟨r37, e37, hm⟩ := bs hm
      try dsimp only at hm
      refine xa_ldO hx hb hK hP 16 0 rfl rfl e37 dL_tours_37 ?_
      refine lv_iconst (v := 1) hx hb dL_tours_38 (by decide) ?_
      refine lv_icmp_ne (tgt := 58) hx hb dL_tours_39 (by decide) (fun c39 => ?_) (fun c39 => ?_)
      · rw [if_neg c39] at hm
        refine lv_iload hx hb dL_tours_58 (lv_at hl 7 rfl) ?_
        refine lv_istore (lv' := [(7, .int x7_27), (0, .ref a_o), (1, .ref a_na), (2, .ref a_ho), (3, .int x3_27), (4, .int x4_27), (5, .int x5_27), (6, .int x6_27), (8, .int x8_27)]) hx hb dL_tours_60 hl (by decide) rfl (fun ls hl => ?_)
        refine lv_iinc (v := (x8_27 + 1)) (lv' := [(8, .int (x8_27 + 1)), (7, .int x7_27), (0, .ref a_o), (1, .ref a_na), (2, .ref a_ho), (3, .int x3_27), (4, .int x4_27), (5, .int x5_27), (6, .int x6_27)]) hx hb dL_tours_62 hl (k := 8) rfl rfl (by decide) rfl (fun ls hl => ?_)
        refine lv_goto (tgt := 27) hx hb dL_tours_65 (by decide) ?_
        exact ih _ _ hm _ (lv_sub hl [2, 3, 4, 5, 6, 7, 8, 1, 0] rfl)
      · rw [if_pos c39] at hm
        refine lv_iload hx hb dL_tours_42 (lv_at hl 8 rfl) ?_
        refine lv_aload_n hx hb dL_tours_44 rfl (lv_at hl 1 rfl) ?_
        obtain ⟨r45, e45, hm⟩ := bs hm
        try dsimp only at hm
        refine ro_callSe ⟨hx, hb, hml, hown, hts⟩ (kL_rank l dC dI cA a_na f_na x8_27 r45 e45) (va_cwS 2 hts gL_tours_L_rank rfl rfl rfl hdL_rank.2 ⟨Nat.le_of_ble_eq_true rfl, Nat.le_of_ble_eq_true rfl⟩) (hP.sub [16] rfl) hK rfl hl.1 rfl (Nat.le_of_ble_eq_true rfl) dL_tours_45 ⟨Nat.zero_le _, Nat.zero_le _⟩ ?_
        refine lv_iload hx hb dL_tours_48 (lv_at hl 6 rfl) ?_
        refine lv_icmp_ne (tgt := 58) hx hb dL_tours_50 (by decide) (fun c50 => ?_) (fun c50 => ?_)
        · try simp only [if_neg c50] at hm
          refine lv_iload hx hb dL_tours_58 (lv_at hl 7 rfl) ?_
          refine lv_istore (lv' := [(7, .int x7_27), (0, .ref a_o), (1, .ref a_na), (2, .ref a_ho), (3, .int x3_27), (4, .int x4_27), (5, .int x5_27), (6, .int x6_27), (8, .int x8_27)]) hx hb dL_tours_60 hl (by decide) rfl (fun ls hl => ?_)
          refine lv_iinc (v := (x8_27 + 1)) (lv' := [(8, .int (x8_27 + 1)), (7, .int x7_27), (0, .ref a_o), (1, .ref a_na), (2, .ref a_ho), (3, .int x3_27), (4, .int x4_27), (5, .int x5_27), (6, .int x6_27)]) hx hb dL_tours_62 hl (k := 8) rfl rfl (by decide) rfl (fun ls hl => ?_)
          refine lv_goto (tgt := 27) hx hb dL_tours_65 (by decide) ?_
          exact ih _ _ hm _ (lv_sub hl [2, 3, 4, 5, 6, 7, 8, 1, 0] rfl)
        · try simp only [if_pos c50] at hm
          refine lv_iload hx hb dL_tours_53 (lv_at hl 8 rfl) ?_
          refine lv_goto (tgt := 60) hx hb dL_tours_55 (by decide) ?_
          refine lv_istore (lv' := [(7, .int x8_27), (0, .ref a_o), (1, .ref a_na), (2, .ref a_ho), (3, .int x3_27), (4, .int x4_27), (5, .int x5_27), (6, .int x6_27), (8, .int x8_27)]) hx hb dL_tours_60 hl (by decide) rfl (fun ls hl => ?_)
          refine lv_iinc (v := (x8_27 + 1)) (lv' := [(8, .int (x8_27 + 1)), (7, .int x8_27), (0, .ref a_o), (1, .ref a_na), (2, .ref a_ho), (3, .int x3_27), (4, .int x4_27), (5, .int x5_27), (6, .int x6_27)]) hx hb dL_tours_62 hl (k := 8) rfl rfl (by decide) rfl (fun ls hl => ?_)
          refine lv_goto (tgt := 27) hx hb dL_tours_65 (by decide) ?_
          exact ih _ _ hm _ (lv_sub hl [2, 3, 4, 5, 6, 7, 8, 1, 0] rfl)
set_option maxHeartbeats 4000000 in
set_option maxRecDepth 100000 in
theorem wL_tours_L15 {p : Program} {l : Launch} {e : Env} {s : State} {m : MethodId} {args : Array Value} {below : List Frame} {meth : Method} {c : Code} {Q : State → Prop} {H : Heap} (dC : Nat → ClassId) (dI : Nat → Nat → Nat) (cA : ClassId) (a_o a_o_town a_o_trial a_o_saves a_o_text a_o_reader a_o_town_state a_o_town_parents a_o_town_children a_o_town_roads a_o_town_namesIn a_o_town_weightIn a_o_town_homes a_o_town_leaving a_o_town_state_keys a_o_town_state_weights a_o_town_state_keys_cells a_o_town_state_weights_cells a_o_town_parents_cells a_o_town_roads_cells a_o_town_namesIn_cells a_o_town_homes_cells a_o_text_signs a_na a_ho : Nat) (v_o_town_state_houses v_o_town_state_limit v_o_town_state_movedIn v_o_town_state_evicted v_o_town_state_built v_o_town_state_tornDown : Int32) (f_o_town_state_keys_cells f_o_town_state_weights_cells f_o_town_parents_cells f_o_town_roads_cells f_o_town_namesIn_cells f_o_town_homes_cells : Nat → Int32) (v_o_text_length : Int32) (f_na f_ho : Nat → Int32) (x3_15 y4_15 y5_15 y6_15 : Int32) (hx : p.tables.exec = Jvm.exec) (hb : c.code = cL_tours) (hml : c.maxLocals = 9) (hown : s.vm.findClass RL = some m.cls) (hts : ∀ w ∈ wsL_tours, w.before args s = true) (hK : va_K (dC, dI) vwCl [(cA, .int)] s) (hP : va_P (dC, dI) vwCl [(a_o, .inr (6, [.ref a_o_town, .ref a_o_trial, .ref a_o_saves, .ref a_o_text, .ref a_o_reader])), (a_o_town, .inr (4, [.ref a_o_town_state, .ref a_o_town_parents, .ref a_o_town_children, .ref a_o_town_roads, .ref a_o_town_namesIn, .ref a_o_town_weightIn, .ref a_o_town_homes, .ref a_o_town_leaving])), (a_o_town_state, .inr (3, [.ref a_o_town_state_keys, .ref a_o_town_state_weights, .int v_o_town_state_houses, .int v_o_town_state_limit, .int v_o_town_state_movedIn, .int v_o_town_state_evicted, .int v_o_town_state_built, .int v_o_town_state_tornDown])), (a_o_town_state_keys, .inr (2, [.ref a_o_town_state_keys_cells])), (a_o_town_state_keys_cells, .inl (cA, 193, .inl f_o_town_state_keys_cells)), (a_o_town_state_weights, .inr (2, [.ref a_o_town_state_weights_cells])), (a_o_town_state_weights_cells, .inl (cA, 193, .inl f_o_town_state_weights_cells)), (a_o_town_parents, .inr (2, [.ref a_o_town_parents_cells])), (a_o_town_parents_cells, .inl (cA, 193, .inl f_o_town_parents_cells)), (a_o_town_roads, .inr (2, [.ref a_o_town_roads_cells])), (a_o_town_roads_cells, .inl (cA, 193, .inl f_o_town_roads_cells)), (a_o_town_namesIn, .inr (2, [.ref a_o_town_namesIn_cells])), (a_o_town_namesIn_cells, .inl (cA, 193, .inl f_o_town_namesIn_cells)), (a_o_town_homes, .inr (2, [.ref a_o_town_homes_cells])), (a_o_town_homes_cells, .inl (cA, 24, .inl f_o_town_homes_cells)), (a_o_text, .inr (1, [.ref a_o_text_signs, .int v_o_text_length])), (a_na, .inl (cA, 15, .inl f_na)), (a_ho, .inl (cA, 15, .inl f_ho))] H)
    (kk0 : ∀ ls : Array Slot, lv_has ls 9 [(0, .ref a_o), (1, .ref a_na), (2, .ref a_ho), (3, .int x3_15), (4, .int y4_15), (5, .int y5_15), (6, .int y6_15)] → W p l e (headSpec wsL_tours rmL_tours).room s m args below meth c H [] 0 0 Q (F0 m 142 ls [])) :
    ∀ (n : Nat) (x4_15 x5_15 x6_15 : Int32), mL_tours_L15 x3_15 f_na f_ho f_o_town_parents_cells f_o_town_namesIn_cells f_o_town_homes_cells n x4_15 x5_15 x6_15 = some (y4_15, y5_15, y6_15) → ∀ ls : Array Slot, lv_has ls 9 [(0, .ref a_o), (1, .ref a_na), (2, .ref a_ho), (3, .int x3_15), (4, .int x4_15), (5, .int x5_15), (6, .int x6_15)] → W p l e (headSpec wsL_tours rmL_tours).room s m args below meth c H [] 0 0 Q (F0 m 15 ls []) := by
  intro n
  induction n with
  | zero =>
    intro x4_15 x5_15 x6_15 hm
    cases hm
  | succ n ih =>
    intro x4_15 x5_15 x6_15 hm ls hl
    rw [mL_tours_L15] at hm
    have hJ119 : ∀ (x4_119 x5_119 x6_119 x7_119 : Int32), mL_tours_J119 f_ho x5_119 x7_119 x4_119 x6_119 (mL_tours_L15 x3_15 f_na f_ho f_o_town_parents_cells f_o_town_namesIn_cells f_o_town_homes_cells n) = some (y4_15, y5_15, y6_15) → ∀ ls : Array Slot, lv_has ls 9 [(0, .ref a_o), (1, .ref a_na), (2, .ref a_ho), (3, .int x3_15), (4, .int x4_119), (5, .int x5_119), (6, .int x6_119), (7, .int x7_119)] → W p l e (headSpec wsL_tours rmL_tours).room s m args below meth c H [] 0 0 Q (F0 m 119 ls []) := by
      intro x4_119 x5_119 x6_119 x7_119 hm ls hl
      unfold mL_tours_J119 at hm
      refine lv_iload hx hb dL_tours_119 (lv_at hl 4 rfl) ?_
      refine lv_iload hx hb dL_tours_121 (lv_at hl 5 rfl) ?_
      refine lv_iload hx hb dL_tours_123 (lv_at hl 7 rfl) ?_
      refine lv_aload_n hx hb dL_tours_125 rfl (lv_at hl 2 rfl) ?_
      obtain ⟨r126, e126, hm⟩ := bs hm
      try dsimp only at hm
      refine ro_callSe ⟨hx, hb, hml, hown, hts⟩ (kL_between l dC dI cA a_ho f_ho x5_119 x7_119 r126 e126) (va_cwS 3 hts gL_tours_L_between rfl rfl rfl hdL_between.2 ⟨Nat.le_of_ble_eq_true rfl, Nat.le_of_ble_eq_true rfl⟩) (hP.sub [17] rfl) hK rfl hl.1 rfl (Nat.le_of_ble_eq_true rfl) dL_tours_126 ⟨Nat.zero_le _, Nat.zero_le _⟩ ?_
      refine lv_iadd hx hb dL_tours_129 ?_
      refine lv_istore (lv' := [(4, .int (x4_119 + r126)), (0, .ref a_o), (1, .ref a_na), (2, .ref a_ho), (3, .int x3_15), (5, .int x5_119), (6, .int x6_119), (7, .int x7_119)]) hx hb dL_tours_130 hl (by decide) rfl (fun ls hl => ?_)
      refine lv_iload hx hb dL_tours_132 (lv_at hl 7 rfl) ?_
      refine lv_istore (lv' := [(5, .int x7_119), (4, .int (x4_119 + r126)), (0, .ref a_o), (1, .ref a_na), (2, .ref a_ho), (3, .int x3_15), (6, .int x6_119), (7, .int x7_119)]) hx hb dL_tours_134 hl (by decide) rfl (fun ls hl => ?_)
      refine lv_iinc (v := (x6_119 + 1)) (lv' := [(6, .int (x6_119 + 1)), (5, .int x7_119), (4, .int (x4_119 + r126)), (0, .ref a_o), (1, .ref a_na), (2, .ref a_ho), (3, .int x3_15), (7, .int x7_119)]) hx hb dL_tours_136 hl (k := 6) rfl rfl (by decide) rfl (fun ls hl => ?_)
      refine lv_goto (tgt := 15) hx hb dL_tours_139 (by decide) ?_
      exact ih _ _ _ hm _ (lv_sub hl [3, 4, 5, 6, 2, 1, 0] rfl)
    have hJ68 : ∀ (x4_68 x5_68 x6_68 x7_68 : Int32), mL_tours_J68 x6_68 f_ho x5_68 x7_68 x4_68 f_o_town_parents_cells f_o_town_namesIn_cells f_o_town_homes_cells (mL_tours_L15 x3_15 f_na f_ho f_o_town_parents_cells f_o_town_namesIn_cells f_o_town_homes_cells n) = some (y4_15, y5_15, y6_15) → ∀ ls : Array Slot, lv_has ls 9 [(0, .ref a_o), (1, .ref a_na), (2, .ref a_ho), (3, .int x3_15), (4, .int x4_68), (5, .int x5_68), (6, .int x6_68), (7, .int x7_68)] → W p l e (headSpec wsL_tours rmL_tours).room s m args below meth c H [] 0 0 Q (F0 m 68 ls []) := by
      intro x4_68 x5_68 x6_68 x7_68 hm ls hl
      unfold mL_tours_J68 at hm
      refine lv_iload hx hb dL_tours_68 (lv_at hl 6 rfl) ?_
      refine lv_if_le (tgt := 119) hx hb dL_tours_70 (by decide) (fun c70 => ?_) (fun c70 => ?_)
      · rw [if_pos c70] at hm
        exact hJ119 x4_68 x5_68 x6_68 x7_68 hm _ (lv_sub hl [0, 1, 2, 3, 4, 5, 6, 7] rfl)
      · rw [if_neg c70] at hm
        refine lv_aload_n hx hb dL_tours_73 rfl (lv_at hl 0 rfl) ?_
        refine lv_iload hx hb dL_tours_74 (lv_at hl 6 rfl) ?_
        refine lv_iconst (v := 1) hx hb dL_tours_76 (by decide) ?_
        refine lv_isub hx hb dL_tours_77 ?_
        refine lv_iload hx hb dL_tours_78 (lv_at hl 6 rfl) ?_
        obtain ⟨r80, e80, hm⟩ := bs hm
        try dsimp only at hm
        refine ro_callVe ⟨hx, hb, hml, hown, hts⟩ (kX7_between_n l dC dI cA a_o a_o_town a_o_trial a_o_saves a_o_text a_o_reader a_o_town_state a_o_town_parents a_o_town_children a_o_town_roads a_o_town_namesIn a_o_town_weightIn a_o_town_homes a_o_town_leaving a_o_town_parents_cells a_o_town_namesIn_cells a_o_town_homes_cells f_o_town_parents_cells f_o_town_namesIn_cells f_o_town_homes_cells (x6_68 - 1) x6_68 r80 e80) (cwV 2 hts gL_tours_X7_between rfl rfl rfl hdX7_between_n ⟨Nat.le_of_ble_eq_true rfl, Nat.le_of_ble_eq_true rfl⟩) (hP.sub [0, 1, 7, 8, 11, 12, 13, 14] rfl) hK rfl rfl rfl hl.1 rfl (Nat.le_of_ble_eq_true rfl) dL_tours_80 ⟨Nat.zero_le _, Nat.zero_le _⟩ ?_
        refine lv_iload hx hb dL_tours_83 (lv_at hl 5 rfl) ?_
        refine lv_iload hx hb dL_tours_85 (lv_at hl 7 rfl) ?_
        refine lv_aload_n hx hb dL_tours_87 rfl (lv_at hl 2 rfl) ?_
        obtain ⟨r88, e88, hm⟩ := bs hm
        try dsimp only at hm
        refine ro_callSe ⟨hx, hb, hml, hown, hts⟩ (kL_between l dC dI cA a_ho f_ho x5_68 x7_68 r88 e88) (va_cwS 3 hts gL_tours_L_between rfl rfl rfl hdL_between.2 ⟨Nat.le_of_ble_eq_true rfl, Nat.le_of_ble_eq_true rfl⟩) (hP.sub [17] rfl) hK rfl hl.1 rfl (Nat.le_of_ble_eq_true rfl) dL_tours_88 ⟨Nat.zero_le _, Nat.zero_le _⟩ ?_
        refine lv_icmp_ne (tgt := 117) hx hb dL_tours_91 (by decide) (fun c91 => ?_) (fun c91 => ?_)
        · rw [if_neg c91] at hm
          cases hm
        · rw [if_pos c91] at hm
          refine lv_aload_n hx hb dL_tours_94 rfl (lv_at hl 0 rfl) ?_
          refine lv_iload hx hb dL_tours_95 (lv_at hl 6 rfl) ?_
          refine lv_iload hx hb dL_tours_97 (lv_at hl 6 rfl) ?_
          refine lv_iconst (v := 1) hx hb dL_tours_99 (by decide) ?_
          refine lv_isub hx hb dL_tours_100 ?_
          obtain ⟨r101, e101, hm⟩ := bs hm
          try dsimp only at hm
          refine ro_callVe ⟨hx, hb, hml, hown, hts⟩ (kX7_between_n l dC dI cA a_o a_o_town a_o_trial a_o_saves a_o_text a_o_reader a_o_town_state a_o_town_parents a_o_town_children a_o_town_roads a_o_town_namesIn a_o_town_weightIn a_o_town_homes a_o_town_leaving a_o_town_parents_cells a_o_town_namesIn_cells a_o_town_homes_cells f_o_town_parents_cells f_o_town_namesIn_cells f_o_town_homes_cells x6_68 (x6_68 - 1) r101 e101) (cwV 2 hts gL_tours_X7_between rfl rfl rfl hdX7_between_n ⟨Nat.le_of_ble_eq_true rfl, Nat.le_of_ble_eq_true rfl⟩) (hP.sub [0, 1, 7, 8, 11, 12, 13, 14] rfl) hK rfl rfl rfl hl.1 rfl (Nat.le_of_ble_eq_true rfl) dL_tours_101 ⟨Nat.zero_le _, Nat.zero_le _⟩ ?_
          refine lv_aload_n hx hb dL_tours_104 rfl (lv_at hl 0 rfl) ?_
          refine lv_iload hx hb dL_tours_105 (lv_at hl 6 rfl) ?_
          refine lv_iconst (v := 1) hx hb dL_tours_107 (by decide) ?_
          refine lv_isub hx hb dL_tours_108 ?_
          refine lv_iload hx hb dL_tours_109 (lv_at hl 6 rfl) ?_
          obtain ⟨r111, e111, hm⟩ := bs hm
          try dsimp only at hm
          refine ro_callVe ⟨hx, hb, hml, hown, hts⟩ (kX7_between_n l dC dI cA a_o a_o_town a_o_trial a_o_saves a_o_text a_o_reader a_o_town_state a_o_town_parents a_o_town_children a_o_town_roads a_o_town_namesIn a_o_town_weightIn a_o_town_homes a_o_town_leaving a_o_town_parents_cells a_o_town_namesIn_cells a_o_town_homes_cells f_o_town_parents_cells f_o_town_namesIn_cells f_o_town_homes_cells (x6_68 - 1) x6_68 r111 e111) (cwV 2 hts gL_tours_X7_between rfl rfl rfl hdX7_between_n ⟨Nat.le_of_ble_eq_true rfl, Nat.le_of_ble_eq_true rfl⟩) (hP.sub [0, 1, 7, 8, 11, 12, 13, 14] rfl) hK rfl rfl rfl hl.1 rfl (Nat.le_of_ble_eq_true rfl) dL_tours_111 ⟨Nat.zero_le _, Nat.zero_le _⟩ ?_
          refine lv_icmp_eq (tgt := 119) hx hb dL_tours_114 (by decide) (fun c114 => ?_) (fun c114 => ?_)
          · rw [if_pos c114] at hm
            exact hJ119 x4_68 x5_68 x6_68 x7_68 hm _ (lv_sub hl [0, 1, 2, 3, 4, 5, 6, 7] rfl)
          · rw [if_neg c114] at hm
            cases hm
    refine lv_iload hx hb dL_tours_15 (lv_at hl 6 rfl) ?_
    refine lv_iload_n hx hb dL_tours_17 rfl (lv_at hl 3 rfl) ?_
    refine lv_icmp_ge (tgt := 142) hx hb dL_tours_18 (by decide) (fun c18 => ?_) (fun c18 => ?_)
    · rw [if_pos c18] at hm
      cases hm
      exact kk0 _ (lv_sub hl [0, 1, 2, 3, 4, 5, 6] rfl)
    · rw [if_neg c18] at hm
      refine lv_iconst (v := 0) hx hb dL_tours_21 (by decide) ?_
      refine lv_istore (lv' := [(7, .int 0), (0, .ref a_o), (1, .ref a_na), (2, .ref a_ho), (3, .int x3_15), (4, .int x4_15), (5, .int x5_15), (6, .int x6_15)]) hx hb dL_tours_22 hl (by decide) rfl (fun ls hl => ?_)
      refine lv_iconst (v := 1) hx hb dL_tours_24 (by decide) ?_
      refine lv_istore (lv' := [(8, .int 1), (7, .int 0), (0, .ref a_o), (1, .ref a_na), (2, .ref a_ho), (3, .int x3_15), (4, .int x4_15), (5, .int x5_15), (6, .int x6_15)]) hx hb dL_tours_25 hl (by decide) rfl (fun ls hl => ?_)
      obtain ⟨⟨y7_27, y8_27⟩, e27, hm⟩ := bs hm
      try dsimp only at hm
      refine wL_tours_L27 dC dI cA a_o a_o_town a_o_trial a_o_saves a_o_text a_o_reader a_o_town_state a_o_town_parents a_o_town_children a_o_town_roads a_o_town_namesIn a_o_town_weightIn a_o_town_homes a_o_town_leaving a_o_town_state_keys a_o_town_state_weights a_o_town_state_keys_cells a_o_town_state_weights_cells a_o_town_parents_cells a_o_town_roads_cells a_o_town_namesIn_cells a_o_town_homes_cells a_o_text_signs a_na a_ho v_o_town_state_houses v_o_town_state_limit v_o_town_state_movedIn v_o_town_state_evicted v_o_town_state_built v_o_town_state_tornDown f_o_town_state_keys_cells f_o_town_state_weights_cells f_o_town_parents_cells f_o_town_roads_cells f_o_town_namesIn_cells f_o_town_homes_cells v_o_text_length f_na f_ho x3_15 x4_15 x5_15 x6_15 y7_27 y8_27 hx hb hml hown hts hK (hP.sub [0, 1, 2, 3, 4, 5, 6, 7, 8, 9, 10, 11, 12, 13, 14, 15, 16, 17] rfl) ?_ FU _ _ e27 _ (lv_sub hl [2, 3, 4, 5, 6, 7, 8, 1, 0] rfl)
      · intro ls hl
        exact hJ68 x4_15 x5_15 x6_15 y7_27 hm _ (lv_sub hl [0, 1, 2, 3, 4, 5, 6, 7] rfl)
set_option maxHeartbeats 4000000 in
set_option maxRecDepth 100000 in
theorem kL_tours (l : Launch) (dC : Nat → ClassId) (dI : Nat → Nat → Nat) (cA : ClassId) (a_o a_o_town a_o_trial a_o_saves a_o_text a_o_reader a_o_town_state a_o_town_parents a_o_town_children a_o_town_roads a_o_town_namesIn a_o_town_weightIn a_o_town_homes a_o_town_leaving a_o_town_state_keys a_o_town_state_weights a_o_town_state_keys_cells a_o_town_state_weights_cells a_o_town_parents_cells a_o_town_roads_cells a_o_town_namesIn_cells a_o_town_homes_cells a_o_text_signs a_na a_ho : Nat) (v_o_town_state_houses v_o_town_state_limit v_o_town_state_movedIn v_o_town_state_evicted v_o_town_state_built v_o_town_state_tornDown : Int32) (f_o_town_state_keys_cells f_o_town_state_weights_cells f_o_town_parents_cells f_o_town_roads_cells f_o_town_namesIn_cells f_o_town_homes_cells : Nat → Int32) (v_o_text_length : Int32) (f_na f_ho : Nat → Int32) (r : Int32) (hm : (mL_tours v_o_town_state_houses v_o_town_state_limit v_o_town_state_movedIn v_o_town_state_evicted v_o_town_state_built v_o_town_state_tornDown f_o_town_state_keys_cells f_o_town_state_weights_cells f_o_town_parents_cells f_o_town_roads_cells f_o_town_namesIn_cells f_o_town_homes_cells v_o_text_length f_na f_ho) = some r) : Met l yL_tours wsL_tours rmL_tours (rpc (dC, dI) [(cA, .int)] (wL_tours cA a_o a_o_town a_o_trial a_o_saves a_o_text a_o_reader a_o_town_state a_o_town_parents a_o_town_children a_o_town_roads a_o_town_namesIn a_o_town_weightIn a_o_town_homes a_o_town_leaving a_o_town_state_keys a_o_town_state_weights a_o_town_state_keys_cells a_o_town_state_weights_cells a_o_town_parents_cells a_o_town_roads_cells a_o_town_namesIn_cells a_o_town_homes_cells a_o_text_signs a_na a_ho v_o_town_state_houses v_o_town_state_limit v_o_town_state_movedIn v_o_town_state_evicted v_o_town_state_built v_o_town_state_tornDown f_o_town_state_keys_cells f_o_town_state_weights_cells f_o_town_parents_cells f_o_town_roads_cells f_o_town_namesIn_cells f_o_town_homes_cells v_o_text_length f_na f_ho) [.ref a_o, .ref a_na, .ref a_ho]) (vp_Si (fun x => x = r ∧ nbr r)) 0 0 (fun _ => False) := by
  unfold mL_tours at hm
  refine ro_ofW (cc := cL_tours) (maxL := 9) (ret := (some .boolean)) (own := RL) (by decide) rfl rfl (Nat.le_of_ble_eq_true rfl) ?_
  intro p e s m args below meth c hx hb hr hts hown hlocks hml hP hK ls hl
  have hl : lv_has ls 9 [(0, .ref a_o), (1, .ref a_na), (2, .ref a_ho)] := hl
  have hP : va_P (dC, dI) vwCl [(a_o, .inr (6, [.ref a_o_town, .ref a_o_trial, .ref a_o_saves, .ref a_o_text, .ref a_o_reader])), (a_o_town, .inr (4, [.ref a_o_town_state, .ref a_o_town_parents, .ref a_o_town_children, .ref a_o_town_roads, .ref a_o_town_namesIn, .ref a_o_town_weightIn, .ref a_o_town_homes, .ref a_o_town_leaving])), (a_o_town_state, .inr (3, [.ref a_o_town_state_keys, .ref a_o_town_state_weights, .int v_o_town_state_houses, .int v_o_town_state_limit, .int v_o_town_state_movedIn, .int v_o_town_state_evicted, .int v_o_town_state_built, .int v_o_town_state_tornDown])), (a_o_town_state_keys, .inr (2, [.ref a_o_town_state_keys_cells])), (a_o_town_state_keys_cells, .inl (cA, 193, .inl f_o_town_state_keys_cells)), (a_o_town_state_weights, .inr (2, [.ref a_o_town_state_weights_cells])), (a_o_town_state_weights_cells, .inl (cA, 193, .inl f_o_town_state_weights_cells)), (a_o_town_parents, .inr (2, [.ref a_o_town_parents_cells])), (a_o_town_parents_cells, .inl (cA, 193, .inl f_o_town_parents_cells)), (a_o_town_roads, .inr (2, [.ref a_o_town_roads_cells])), (a_o_town_roads_cells, .inl (cA, 193, .inl f_o_town_roads_cells)), (a_o_town_namesIn, .inr (2, [.ref a_o_town_namesIn_cells])), (a_o_town_namesIn_cells, .inl (cA, 193, .inl f_o_town_namesIn_cells)), (a_o_town_homes, .inr (2, [.ref a_o_town_homes_cells])), (a_o_town_homes_cells, .inl (cA, 24, .inl f_o_town_homes_cells)), (a_o_text, .inr (1, [.ref a_o_text_signs, .int v_o_text_length])), (a_na, .inl (cA, 15, .inl f_na)), (a_ho, .inl (cA, 15, .inl f_ho))] s.heap := hP
  refine lv_aload_n hx hb dL_tours_0 rfl (lv_at hl 0 rfl) ?_
  refine lv_iconst (v := 0) hx hb dL_tours_1 (by decide) ?_
  obtain ⟨r2, e2, hm⟩ := bs hm
  try dsimp only at hm
  refine ro_callVe ⟨hx, hb, hml, hown, hts⟩ (kX7_whole_n l dC dI cA a_o a_o_town a_o_trial a_o_saves a_o_text a_o_reader a_o_town_state a_o_town_parents a_o_town_children a_o_town_roads a_o_town_namesIn a_o_town_weightIn a_o_town_homes a_o_town_leaving a_o_town_state_keys a_o_town_state_weights a_o_town_state_keys_cells a_o_town_state_weights_cells a_o_town_parents_cells a_o_town_roads_cells a_o_town_namesIn_cells a_o_town_homes_cells a_o_text_signs v_o_town_state_houses v_o_town_state_limit v_o_town_state_movedIn v_o_town_state_evicted v_o_town_state_built v_o_town_state_tornDown f_o_town_state_keys_cells f_o_town_state_weights_cells f_o_town_parents_cells f_o_town_roads_cells f_o_town_namesIn_cells f_o_town_homes_cells v_o_text_length 0 r2 e2) (cwV 1 hts gL_tours_X7_whole rfl rfl rfl hdX7_whole_n ⟨Nat.le_of_ble_eq_true rfl, Nat.le_of_ble_eq_true rfl⟩) (hP.sub [0, 1, 2, 3, 4, 5, 6, 7, 8, 9, 10, 11, 12, 13, 14, 15] rfl) hK rfl rfl rfl hl.1 rfl (Nat.le_of_ble_eq_true rfl) dL_tours_2 ⟨Nat.zero_le _, Nat.zero_le _⟩ ?_
  refine lv_istore_n (lv' := [(3, .int r2), (0, .ref a_o), (1, .ref a_na), (2, .ref a_ho)]) hx hb dL_tours_5 rfl hl (by decide) rfl (fun ls hl => ?_)
  refine lv_iconst (v := 0) hx hb dL_tours_6 (by decide) ?_
  refine lv_istore (lv' := [(4, .int 0), (3, .int r2), (0, .ref a_o), (1, .ref a_na), (2, .ref a_ho)]) hx hb dL_tours_7 hl (by decide) rfl (fun ls hl => ?_)
  refine lv_iconst (v := 0) hx hb dL_tours_9 (by decide) ?_
  refine lv_istore (lv' := [(5, .int 0), (4, .int 0), (3, .int r2), (0, .ref a_o), (1, .ref a_na), (2, .ref a_ho)]) hx hb dL_tours_10 hl (by decide) rfl (fun ls hl => ?_)
  refine lv_iconst (v := 0) hx hb dL_tours_12 (by decide) ?_
  refine lv_istore (lv' := [(6, .int 0), (5, .int 0), (4, .int 0), (3, .int r2), (0, .ref a_o), (1, .ref a_na), (2, .ref a_ho)]) hx hb dL_tours_13 hl (by decide) rfl (fun ls hl => ?_)
  obtain ⟨⟨y4_15, y5_15, y6_15⟩, e15, hm⟩ := bs hm
  try dsimp only at hm
  refine wL_tours_L15 dC dI cA a_o a_o_town a_o_trial a_o_saves a_o_text a_o_reader a_o_town_state a_o_town_parents a_o_town_children a_o_town_roads a_o_town_namesIn a_o_town_weightIn a_o_town_homes a_o_town_leaving a_o_town_state_keys a_o_town_state_weights a_o_town_state_keys_cells a_o_town_state_weights_cells a_o_town_parents_cells a_o_town_roads_cells a_o_town_namesIn_cells a_o_town_homes_cells a_o_text_signs a_na a_ho v_o_town_state_houses v_o_town_state_limit v_o_town_state_movedIn v_o_town_state_evicted v_o_town_state_built v_o_town_state_tornDown f_o_town_state_keys_cells f_o_town_state_weights_cells f_o_town_parents_cells f_o_town_roads_cells f_o_town_namesIn_cells f_o_town_homes_cells v_o_text_length f_na f_ho r2 y4_15 y5_15 y6_15 hx hb hml hown hts hK (hP.sub [0, 1, 2, 3, 4, 5, 6, 7, 8, 9, 10, 11, 12, 13, 14, 15, 16, 17] rfl) ?_ FU _ _ _ e15 _ (lv_sub hl [4, 5, 6, 3, 2, 1, 0] rfl)
  · intro ls hl
    refine lv_aload_n hx hb dL_tours_142 rfl (lv_at hl 0 rfl) ?_
    refine ro_callVe ⟨hx, hb, hml, hown, hts⟩ (kX7_tour l dC dI cA a_o a_o_town a_o_trial a_o_saves a_o_text a_o_reader a_o_town_state a_o_town_parents a_o_town_children a_o_town_roads a_o_town_namesIn a_o_town_weightIn a_o_town_homes a_o_town_leaving a_o_town_state_keys a_o_town_state_weights v_o_town_state_houses v_o_town_state_limit v_o_town_state_movedIn v_o_town_state_evicted v_o_town_state_built v_o_town_state_tornDown) (cwV 0 hts gL_tours_X7_tour rfl rfl rfl hdX7_tour ⟨Nat.le_of_ble_eq_true rfl, Nat.le_of_ble_eq_true rfl⟩) (hP.sub [0, 1, 2] rfl) hK rfl rfl rfl hl.1 rfl (Nat.le_of_ble_eq_true rfl) dL_tours_143 ⟨Nat.zero_le _, Nat.zero_le _⟩ ?_
    refine lv_iload hx hb dL_tours_146 (lv_at hl 4 rfl) ?_
    refine lv_iload hx hb dL_tours_148 (lv_at hl 5 rfl) ?_
    refine lv_iconst (v := 0) hx hb dL_tours_150 (by decide) ?_
    refine lv_aload_n hx hb dL_tours_151 rfl (lv_at hl 2 rfl) ?_
    obtain ⟨r152, e152, hm⟩ := bs hm
    try dsimp only at hm
    refine ro_callSe ⟨hx, hb, hml, hown, hts⟩ (kL_between l dC dI cA a_ho f_ho y5_15 0 r152 e152) (va_cwS 3 hts gL_tours_L_between rfl rfl rfl hdL_between.2 ⟨Nat.le_of_ble_eq_true rfl, Nat.le_of_ble_eq_true rfl⟩) (hP.sub [17] rfl) hK rfl hl.1 rfl (Nat.le_of_ble_eq_true rfl) dL_tours_152 ⟨Nat.zero_le _, Nat.zero_le _⟩ ?_
    refine lv_iadd hx hb dL_tours_155 ?_
    refine lv_icmp_ne (tgt := 163) hx hb dL_tours_156 (by decide) (fun c156 => ?_) (fun c156 => ?_)
    · rw [if_neg c156] at hm
      cases hm
    · rw [if_pos c156] at hm
      refine lv_iconst (v := 1) hx hb dL_tours_159 (by decide) ?_
      refine lv_goto (tgt := 164) hx hb dL_tours_160 (by decide) ?_
      cases hm
      exact ro_iret hx hb hr rfl ⟨rfl, rfl⟩ dL_tours_164 hlocks
