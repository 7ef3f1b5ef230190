def mX1_length (v_t_length : Int32) : Int32 :=
  v_t_length
abbrev rmX1_length : Room := { frames := 0, cells := 0, slots := 0, locals := 0 }
abbrev wX1_length (cA : ClassId) (a_t a_t_signs : Nat) (v_t_length : Int32) : va_W := [(a_t, .inr (1, [.ref a_t_signs, .int v_t_length]))]
theorem iX1_length_X1 : ∀ w ∈ wsX10, w ∈ wsX1_length := (fun _ h => List.mem_cons_of_mem _ (List.mem_append_right _ h))
theorem hdX1_length : yX1_length.cls = RX1 ∧ yX1_length.cls ≠ "java/lang/invoke/MethodHandle" ∧ yX1_length.cls ≠ "java/lang/invoke/VarHandle" ∧ (parseMethodDescriptor yX1_length.desc).map (fun d => d.parameters.length) = some 0 := by decide +kernel
set_option maxHeartbeats 4000000 in
set_option maxRecDepth 100000 in
theorem kX1_length (l : Launch) (dC : Nat → ClassId) (dI : Nat → Nat → Nat) (cA : ClassId) (a_t a_t_signs : Nat) (v_t_length : Int32) : Met l yX1_length wsX1_length rmX1_length (rpc (dC, dI) [(cA, .int)] (wX1_length cA a_t a_t_signs v_t_length) [.ref a_t]) (vp_Si (fun x => x = (mX1_length v_t_length))) 0 0 (fun _ => False) := by
  obtain ⟨r, hm⟩ : ∃ r, mX1_length v_t_length = r := ⟨_, rfl⟩
  rw [hm]
  unfold mX1_length at hm
  refine ro_ofW (cc := cX1_length) (maxL := 1) (ret := (some .int)) (own := RX1) (by decide) rfl rfl (Nat.le_of_ble_eq_true rfl) ?_
  intro p e s m args below meth c hx hb hr hts hown hlocks hml hP hK ls hl
  have hl : lv_has ls 1 [(0, .ref a_t)] := hl
  have hP : va_P (dC, dI) vwCl [(a_t, .inr (1, [.ref a_t_signs, .int v_t_length]))] s.heap := hP
  refine lv_aload_n hx hb dX1_length_0 rfl (lv_at hl 0 rfl) ?_
  refine va_get (D := (dC, dI)) (ci := 1) (C := RX1) (T := TX1) (N := 2) hx hb hts iX1_length_X1 hown hK hP 0 rfl rfl 1 (by decide) (hts _ (List.mem_of_getElem? (i := 1) rfl)) (fun _ h9 => h9) rfl dX1_length_1 ?_
  subst hm
  exact ro_iret hx hb hr rfl rfl dX1_length_4 hlocks
def mX7_isLimit (p0 : Int32) : Int32 :=
  (if p0 < 1 then 0 else (if 8 < p0 then (0 : Int32) else 1))
abbrev rmX7_isLimit : Room := { frames := 0, cells := 0, slots := 0, locals := 0 }
theorem hdX7_isLimit : yX7_isLimit.cls = RX7 ∧ yX7_isLimit.cls ≠ "java/lang/invoke/MethodHandle" ∧ yX7_isLimit.cls ≠ "java/lang/invoke/VarHandle" ∧ (parseMethodDescriptor yX7_isLimit.desc).map (fun d => d.parameters.length) = some 1 := by decide +kernel
set_option maxHeartbeats 4000000 in
set_option maxRecDepth 100000 in
theorem kX7_isLimit (l : Launch) (p0 : Int32) : Met l yX7_isLimit wsX7_isLimit rmX7_isLimit (spc [.int p0]) (vp_Si (fun x => x = (mX7_isLimit p0) ∧ nbr (mX7_isLimit p0))) 0 0 (fun _ => False) := by
  obtain ⟨r, hm⟩ : ∃ r, mX7_isLimit p0 = r := ⟨_, rfl⟩
  rw [hm]
  unfold mX7_isLimit at hm
  refine sp_ofW (cc := cX7_isLimit) (maxL := 1) (ret := (some .boolean)) (own := RX7) (by decide) rfl rfl (Nat.le_of_ble_eq_true rfl) ?_
  intro p e s m args below meth c hx hb hr hts hown hlocks hml ls hl
  have hl : lv_has ls 1 [(0, .int p0)] := hl
  refine lv_iload_n hx hb dX7_isLimit_0 rfl (lv_at hl 0 rfl) ?_
  refine lv_iconst (v := 1) hx hb dX7_isLimit_1 (by decide) ?_
  refine lv_icmp_lt (tgt := 15) hx hb dX7_isLimit_2 (by decide) (fun c2 => ?_) (fun c2 => ?_)
  · try simp only [if_pos c2] at hm
    refine lv_iconst (v := 0) hx hb dX7_isLimit_15 (by decide) ?_
    subst hm
    exact ro_iret hx hb hr rfl ⟨rfl, rfl⟩ dX7_isLimit_16 hlocks
  · try simp only [if_neg c2] at hm
    refine lv_iload_n hx hb dX7_isLimit_5 rfl (lv_at hl 0 rfl) ?_
    refine lv_bipush (v := 8) hx hb dX7_isLimit_6 (by decide) ?_
    refine lv_icmp_gt (tgt := 15) hx hb dX7_isLimit_8 (by decide) (fun c8 => ?_) (fun c8 => ?_)
    · try simp only [if_pos c8] at hm
      refine lv_iconst (v := 0) hx hb dX7_isLimit_15 (by decide) ?_
      subst hm
      exact ro_iret hx hb hr rfl ⟨rfl, rfl⟩ dX7_isLimit_16 hlocks
    · try simp only [if_neg c8] at hm
      refine lv_iconst (v := 1) hx hb dX7_isLimit_11 (by decide) ?_
      refine lv_goto (tgt := 16) hx hb dX7_isLimit_12 (by decide) ?_
      subst hm
      exact ro_iret hx hb hr rfl ⟨rfl, rfl⟩ dX7_isLimit_16 hlocks
def mX7_tour (v_t_town_state_houses : Int32) : Int32 :=
  (mX5_tourRoads v_t_town_state_houses)
abbrev rmX7_tour : Room := { frames := 1, cells := 0, slots := 0, locals := 20 }
abbrev wX7_tour (cA : ClassId) (a_t a_t_town a_t_trial a_t_saves a_t_text a_t_reader a_t_town_state a_t_town_parents a_t_town_children a_t_town_roads a_t_town_namesIn a_t_town_weightIn a_t_town_homes a_t_town_leaving a_t_town_state_keys a_t_town_state_weights : Nat) (v_t_town_state_houses v_t_town_state_limit v_t_town_state_movedIn v_t_town_state_evicted v_t_town_state_built v_t_town_state_tornDown : Int32) : va_W := [(a_t, .inr (6, [.ref a_t_town, .ref a_t_trial, .ref a_t_saves, .ref a_t_text, .ref a_t_reader])), (a_t_town, .inr (4, [.ref a_t_town_state, .ref a_t_town_parents, .ref a_t_town_children, .ref a_t_town_roads, .ref a_t_town_namesIn, .ref a_t_town_weightIn, .ref a_t_town_homes, .ref a_t_town_leaving])), (a_t_town_state, .inr (3, [.ref a_t_town_state_keys, .ref a_t_town_state_weights, .int v_t_town_state_houses, .int v_t_town_state_limit, .int v_t_town_state_movedIn, .int v_t_town_state_evicted, .int v_t_town_state_built, .int v_t_town_state_tornDown]))]
theorem iX7_tour_X7 : ∀ w ∈ wsX70, w ∈ wsX7_tour := (fun _ h => List.mem_cons_of_mem _ (List.mem_append_left _ (List.mem_append_left _ (List.mem_append_right _ h))))
theorem hdX7_tour : yX7_tour.cls = RX7 ∧ yX7_tour.cls ≠ "java/lang/invoke/MethodHandle" ∧ yX7_tour.cls ≠ "java/lang/invoke/VarHandle" ∧ (parseMethodDescriptor yX7_tour.desc).map (fun d => d.parameters.length) = some 0 := by decide +kernel
set_option maxHeartbeats 4000000 in
set_option maxRecDepth 100000 in
theorem kX7_tour (l : Launch) (dC : Nat → ClassId) (dI : Nat → Nat → Nat) (cA : ClassId) (a_t a_t_town a_t_trial a_t_saves a_t_text a_t_reader a_t_town_state a_t_town_parents a_t_town_children a_t_town_roads a_t_town_namesIn a_t_town_weightIn a_t_town_homes a_t_town_leaving a_t_town_state_keys a_t_town_state_weights : Nat) (v_t_town_state_houses v_t_town_state_limit v_t_town_state_movedIn v_t_town_state_evicted v_t_town_state_built v_t_town_state_tornDown : Int32) : Met l yX7_tour wsX7_tour rmX7_tour (rpc (dC, dI) [(cA, .int)] (wX7_tour cA a_t a_t_town a_t_trial a_t_saves a_t_text a_t_reader a_t_town_state a_t_town_parents a_t_town_children a_t_town_roads a_t_town_namesIn a_t_town_weightIn a_t_town_homes a_t_town_leaving a_t_town_state_keys a_t_town_state_weights v_t_town_state_houses v_t_town_state_limit v_t_town_state_movedIn v_t_town_state_evicted v_t_town_state_built v_t_town_state_tornDown) [.ref a_t]) (vp_Si (fun x => x = (mX7_tour v_t_town_state_houses))) 0 0 (fun _ => False) := by
  obtain ⟨r, hm⟩ : ∃ r, mX7_tour v_t_town_state_houses = r := ⟨_, rfl⟩
  rw [hm]
  unfold mX7_tour at hm
  refine ro_ofW (cc := cX7_tour) (maxL := 1) (ret := (some .int)) (own := RX7) (by decide) rfl rfl (Nat.le_of_ble_eq_true rfl) ?_
  intro p e s m args below meth c hx hb hr hts hown hlocks hml hP hK ls hl
  have hl : lv_has ls 1 [(0, .ref a_t)] := hl
  have hP : va_P (dC, dI) vwCl [(a_t, .inr (6, [.ref a_t_town, .ref a_t_trial, .ref a_t_saves, .ref a_t_text, .ref a_t_reader])), (a_t_town, .inr (4, [.ref a_t_town_state, .ref a_t_town_parents, .ref a_t_town_children, .ref a_t_town_roads, .ref a_t_town_namesIn, .ref a_t_town_weightIn, .ref a_t_town_homes, .ref a_t_town_leaving])), (a_t_town_state, .inr (3, [.ref a_t_town_state_keys, .ref a_t_town_state_weights, .int v_t_town_state_houses, .int v_t_town_state_limit, .int v_t_town_state_movedIn, .int v_t_town_state_evicted, .int v_t_town_state_built, .int v_t_town_state_tornDown]))] s.heap := hP
  refine lv_aload_n hx hb dX7_tour_0 rfl (lv_at hl 0 rfl) ?_
  refine va_get (D := (dC, dI)) (ci := 6) (C := RX7) (T := TX7) (N := 5) hx hb hts iX7_tour_X7 hown hK hP 0 rfl rfl 0 (by decide) (hts _ (List.mem_of_getElem? (i := 1) rfl)) (fun _ h9 => h9) rfl dX7_tour_1 ?_
  refine ro_callVe ⟨hx, hb, hml, hown, hts⟩ (kX5_tourRoads l dC dI cA a_t_town a_t_town_state a_t_town_parents a_t_town_children a_t_town_roads a_t_town_namesIn a_t_town_weightIn a_t_town_homes a_t_town_leaving a_t_town_state_keys a_t_town_state_weights v_t_town_state_houses v_t_town_state_limit v_t_town_state_movedIn v_t_town_state_evicted v_t_town_state_built v_t_town_state_tornDown) (cwV 0 hts gX7_tour_X5_tourRoads rfl rfl rfl hdX5_tourRoads ⟨Nat.le_of_ble_eq_true rfl, Nat.le_of_ble_eq_true rfl⟩) (hP.sub [1, 2] rfl) hK rfl rfl rfl hl.1 rfl (Nat.le_of_ble_eq_true rfl) dX7_tour_4 ⟨Nat.zero_le _, Nat.zero_le _⟩ ?_
  subst hm
  exact ro_iret hx hb hr rfl rfl dX7_tour_7 hlocks
def mX7_bestMove (v_t_town_state_houses : Int32) (v_t_town_state_limit : Int32) (f_t_town_state_keys_cells : Nat → Int32) (f_t_town_state_weights_cells : Nat → Int32) (f_t_town_parents_cells : Nat → Int32) (f_t_town_children_cells : Nat → Int32) (f_t_town_weightIn_cells : Nat → Int32) : Option (Int32) :=
  ((mX5_bestToMove v_t_town_state_houses v_t_town_state_limit f_t_town_state_keys_cells f_t_town_state_weights_cells f_t_town_parents_cells f_t_town_children_cells f_t_town_weightIn_cells).bind fun r4 =>
  some r4)
abbrev rmX7_bestMove : Room := { frames := 6, cells := 0, slots := 0, locals := 130 }
abbrev wX7_bestMove (cA : ClassId) (a_t a_t_town a_t_trial a_t_saves a_t_text a_t_reader a_t_town_state a_t_town_parents a_t_town_children a_t_town_roads a_t_town_namesIn a_t_town_weightIn a_t_town_homes a_t_town_leaving a_t_town_state_keys a_t_town_state_weights a_t_town_state_keys_cells a_t_town_state_weights_cells a_t_town_parents_cells a_t_town_children_cells a_t_town_weightIn_cells : Nat) (v_t_town_state_houses v_t_town_state_limit v_t_town_state_movedIn v_t_town_state_evicted v_t_town_state_built v_t_town_state_tornDown : Int32) (f_t_town_state_keys_cells f_t_town_state_weights_cells f_t_town_parents_cells f_t_town_children_cells f_t_town_weightIn_cells : Nat → Int32) : va_W := [(a_t, .inr (6, [.ref a_t_town, .ref a_t_trial, .ref a_t_saves, .ref a_t_text, .ref a_t_reader])), (a_t_town, .inr (4, [.ref a_t_town_state, .ref a_t_town_parents, .ref a_t_town_children, .ref a_t_town_roads, .ref a_t_town_namesIn, .ref a_t_town_weightIn, .ref a_t_town_homes, .ref a_t_town_leaving])), (a_t_town_state, .inr (3, [.ref a_t_town_state_keys, .ref a_t_town_state_weights, .int v_t_town_state_houses, .int v_t_town_state_limit, .int v_t_town_state_movedIn, .int v_t_town_state_evicted, .int v_t_town_state_built, .int v_t_town_state_tornDown])), (a_t_town_state_keys, .inr (2, [.ref a_t_town_state_keys_cells])), (a_t_town_state_keys_cells, .inl (cA, 193, .inl f_t_town_state_keys_cells)), (a_t_town_state_weights, .inr (2, [.ref a_t_town_state_weights_cells])), (a_t_town_state_weights_cells, .inl (cA, 193, .inl f_t_town_state_weights_cells)), (a_t_town_parents, .inr (2, [.ref a_t_town_parents_cells])), (a_t_town_parents_cells, .inl (cA, 193, .inl f_t_town_parents_cells)), (a_t_town_children, .inr (2, [.ref a_t_town_children_cells])), (a_t_town_children_cells, .inl (cA, 193, .inl f_t_town_children_cells)), (a_t_town_weightIn, .inr (2, [.ref a_t_town_weightIn_cells])), (a_t_town_weightIn_cells, .inl (cA, 193, .inl f_t_town_weightIn_cells))]
theorem iX7_bestMove_X7 : ∀ w ∈ wsX70, w ∈ wsX7_bestMove := (fun _ h => List.mem_cons_of_mem _ (List.mem_append_left _ (List.mem_append_left _ (List.mem_append_left _ (List.mem_append_right _ h)))))
theorem hdX7_bestMove : yX7_bestMove.cls = RX7 ∧ yX7_bestMove.cls ≠ "java/lang/invoke/MethodHandle" ∧ yX7_bestMove.cls ≠ "java/lang/invoke/VarHandle" ∧ (parseMethodDescriptor yX7_bestMove.desc).map (fun d => d.parameters.length) = some 0 := by decide +kernel
set_option maxHeartbeats 4000000 in
set_option maxRecDepth 100000 in
theorem kX7_bestMove (l : Launch) (dC : Nat → ClassId) (dI : Nat → Nat → Nat) (cA : ClassId) (a_t a_t_town a_t_trial a_t_saves a_t_text a_t_reader a_t_town_state a_t_town_parents a_t_town_children a_t_town_roads a_t_town_namesIn a_t_town_weightIn a_t_town_homes a_t_town_leaving a_t_town_state_keys a_t_town_state_weights a_t_town_state_keys_cells a_t_town_state_weights_cells a_t_town_parents_cells a_t_town_children_cells a_t_town_weightIn_cells : Nat) (v_t_town_state_houses v_t_town_state_limit v_t_town_state_movedIn v_t_town_state_evicted v_t_town_state_built v_t_town_state_tornDown : Int32) (f_t_town_state_keys_cells f_t_town_state_weights_cells f_t_town_parents_cells f_t_town_children_cells f_t_town_weightIn_cells : Nat → Int32) (r : Int32) (hm : (mX7_bestMove v_t_town_state_houses v_t_town_state_limit f_t_town_state_keys_cells f_t_town_state_weights_cells f_t_town_parents_cells f_t_town_children_cells f_t_town_weightIn_cells) = some r) : Met l yX7_bestMove wsX7_bestMove rmX7_bestMove (rpc (dC, dI) [(cA, .int)] (wX7_bestMove cA a_t a_t_town a_t_trial a_t_saves a_t_text a_t_reader a_t_town_state a_t_town_parents a_t_town_children a_t_town_roads a_t_town_namesIn a_t_town_weightIn a_t_town_homes a_t_town_leaving a_t_town_state_keys a_t_town_state_weights a_t_town_state_keys_cells a_t_town_state_weights_cells a_t_town_parents_cells a_t_town_children_cells a_t_town_weightIn_cells v_t_town_state_houses v_t_town_state_limit v_t_town_state_movedIn v_t_town_state_evicted v_t_town_state_built v_t_town_state_tornDown f_t_town_state_keys_cells f_t_town_state_weights_cells f_t_town_parents_cells f_t_town_children_cells f_t_town_weightIn_cells) [.ref a_t]) (vp_Si (fun x => x = r)) 0 0 (fun _ => False) := by
  unfold mX7_bestMove at hm
  refine ro_ofW (cc := cX7_bestMove) (maxL := 1) (ret := (some .int)) (own := RX7) (by decide) rfl rfl (Nat.le_of_ble_eq_true rfl) ?_
  intro p e s m args below meth c hx hb hr hts hown hlocks hml hP hK ls hl
  have hl : lv_has ls 1 [(0, .ref a_t)] := hl
  have hP : va_P (dC, dI) vwCl [(a_t, .inr (6, [.ref a_t_town, .ref a_t_trial, .ref a_t_saves, .ref a_t_text, .ref a_t_reader])), (a_t_town, .inr (4, [.ref a_t_town_state, .ref a_t_town_parents, .ref a_t_town_children, .ref a_t_town_roads, .ref a_t_town_namesIn, .ref a_t_town_weightIn, .ref a_t_town_homes, .ref a_t_town_leaving])), (a_t_town_state, .inr (3, [.ref a_t_town_state_keys, .ref a_t_town_state_weights, .int v_t_town_state_houses, .int v_t_town_state_limit, .int v_t_town_state_movedIn, .int v_t_town_state_evicted, .int v_t_town_state_built, .int v_t_town_state_tornDown])), (a_t_town_state_keys, .inr (2, [.ref a_t_town_state_keys_cells])), (a_t_town_state_keys_cells, .inl (cA, 193, .inl f_t_town_state_keys_cells)), (a_t_town_state_weights, .inr (2, [.ref a_t_town_state_weights_cells])), (a_t_town_state_weights_cells, .inl (cA, 193, .inl f_t_town_state_weights_cells)), (a_t_town_parents, .inr (2, [.ref a_t_town_parents_cells])), (a_t_town_parents_cells, .inl (cA, 193, .inl f_t_town_parents_cells)), (a_t_town_children, .inr (2, [.ref a_t_town_children_cells])), (a_t_town_children_cells, .inl (cA, 193, .inl f_t_town_children_cells)), (a_t_town_weightIn, .inr (2, [.ref a_t_town_weightIn_cells])), (a_t_town_weightIn_cells, .inl (cA, 193, .inl f_t_town_weightIn_cells))] s.heap := hP
  refine lv_aload_n hx hb dX7_bestMove_0 rfl (lv_at hl 0 rfl) ?_
  refine va_get (D := (dC, dI)) (ci := 6) (C := RX7) (T := TX7) (N := 5) hx hb hts iX7_bestMove_X7 hown hK hP 0 rfl rfl 0 (by decide) (hts _ (List.mem_of_getElem? (i := 1) rfl)) (fun _ h9 => h9) rfl dX7_bestMove_1 ?_
  obtain ⟨r4, e4, hm⟩ := bs hm
  try dsimp only at hm
  refine ro_callVe ⟨hx, hb, hml, hown, hts⟩ (kX5_bestToMove l dC dI cA a_t_town a_t_town_state a_t_town_parents a_t_town_children a_t_town_roads a_t_town_namesIn a_t_town_weightIn a_t_town_homes a_t_town_leaving a_t_town_state_keys a_t_town_state_weights a_t_town_state_keys_cells a_t_town_state_weights_cells a_t_town_parents_cells a_t_town_children_cells a_t_town_weightIn_cells v_t_town_state_houses v_t_town_state_limit v_t_town_state_movedIn v_t_town_state_evicted v_t_town_state_built v_t_town_state_tornDown f_t_town_state_keys_cells f_t_town_state_weights_cells f_t_town_parents_cells f_t_town_children_cells f_t_town_weightIn_cells r4 e4) (cwV 0 hts gX7_bestMove_X5_bestToMove rfl rfl rfl hdX5_bestToMove ⟨Nat.le_of_ble_eq_true rfl, Nat.le_of_ble_eq_true rfl⟩) (hP.sub [1, 2, 3, 4, 5, 6, 7, 8, 9, 10, 11, 12] rfl) hK rfl rfl rfl hl.1 rfl (Nat.le_of_ble_eq_true rfl) dX7_bestMove_4 ⟨Nat.zero_le _, Nat.zero_le _⟩ ?_
  cases hm
  exact ro_iret hx hb hr rfl rfl dX7_bestMove_7 hlocks
