def mX2_bitsBehind (p0 : Int32) : Int32 :=
  (4 + (3 * (8 - p0)))
abbrev rmX2_bitsBehind : Room := { frames := 0, cells := 0, slots := 0, locals := 0 }
theorem hdX2_bitsBehind : yX2_bitsBehind.cls = RX2 ∧ yX2_bitsBehind.cls ≠ "java/lang/invoke/MethodHandle" ∧ yX2_bitsBehind.cls ≠ "java/lang/invoke/VarHandle" ∧ (parseMethodDescriptor yX2_bitsBehind.desc).map (fun d => d.parameters.length) = some 1 := by decide +kernel
set_option maxHeartbeats 4000000 in
set_option maxRecDepth 100000 in
theorem kX2_bitsBehind (l : Launch) (p0 : Int32) : Met l yX2_bitsBehind wsX2_bitsBehind rmX2_bitsBehind (spc [.int p0]) (vp_Si (fun x => x = (mX2_bitsBehind p0))) 0 0 (fun _ => False) := by
  obtain ⟨r, hm⟩ : ∃ r, mX2_bitsBehind p0 = r := ⟨_, rfl⟩
  rw [hm]
  unfold mX2_bitsBehind at hm
  refine sp_ofW (cc := cX2_bitsBehind) (maxL := 1) (ret := (some .int)) (own := RX2) (by decide) rfl rfl (Nat.le_of_ble_eq_true rfl) ?_
  intro p e s m args below meth c hx hb hr hts hown hlocks hml ls hl
  have hl : lv_has ls 1 [(0, .int p0)] := hl
  refine lv_iconst (v := 4) hx hb dX2_bitsBehind_0 (by decide) ?_
  refine lv_iconst (v := 3) hx hb dX2_bitsBehind_1 (by decide) ?_
  refine lv_bipush (v := 8) hx hb dX2_bitsBehind_2 (by decide) ?_
  refine lv_iload_n hx hb dX2_bitsBehind_4 rfl (lv_at hl 0 rfl) ?_
  refine lv_isub hx hb dX2_bitsBehind_5 ?_
  refine lv_imul hx hb dX2_bitsBehind_6 ?_
  refine lv_iadd hx hb dX2_bitsBehind_7 ?_
  subst hm
  exact ro_iret hx hb hr rfl rfl dX2_bitsBehind_8 hlocks
def mX2_of (p0 : Int32) (p1 : Int32) : Int32 :=
  ((p0 <<< ((mX2_bitsBehind p1) &&& 31)) ||| p1)
abbrev rmX2_of : Room := { frames := 1, cells := 0, slots := 0, locals := 20 }
theorem hdX2_of : yX2_of.cls = RX2 ∧ yX2_of.cls ≠ "java/lang/invoke/MethodHandle" ∧ yX2_of.cls ≠ "java/lang/invoke/VarHandle" ∧ (parseMethodDescriptor yX2_of.desc).map (fun d => d.parameters.length) = some 2 := by decide +kernel
set_option maxHeartbeats 4000000 in
set_option maxRecDepth 100000 in
theorem kX2_of (l : Launch) (p0 p1 : Int32) : Met l yX2_of wsX2_of rmX2_of (spc [.int p0, .int p1]) (vp_Si (fun x => x = (mX2_of p0 p1))) 0 0 (fun _ => False) := by
  obtain ⟨r, hm⟩ : ∃ r, mX2_of p0 p1 = r := ⟨_, rfl⟩
  rw [hm]
  unfold mX2_of at hm
  refine sp_ofW (cc := cX2_of) (maxL := 2) (ret := (some .int)) (own := RX2) (by decide) rfl rfl (Nat.le_of_ble_eq_true rfl) ?_
  intro p e s m args below meth c hx hb hr hts hown hlocks hml ls hl
  have hl : lv_has ls 2 [(0, .int p0), (1, .int p1)] := hl
  refine lv_iload_n hx hb dX2_of_0 rfl (lv_at hl 0 rfl) ?_
  refine lv_iload_n hx hb dX2_of_1 rfl (lv_at hl 1 rfl) ?_
  refine sp_callSe ⟨hx, hb, hml, hown, hts⟩ (kX2_bitsBehind l p1) (va_cwS 1 hts gX2_of_X2_bitsBehind rfl rfl rfl hdX2_bitsBehind.2 ⟨Nat.le_of_ble_eq_true rfl, Nat.le_of_ble_eq_true rfl⟩) rfl hl.1 rfl (Nat.le_of_ble_eq_true rfl) dX2_of_2 ⟨Nat.zero_le _, Nat.zero_le _⟩ ?_
  refine lv_ishl hx hb dX2_of_5 ?_
  refine lv_iload_n hx hb dX2_of_6 rfl (lv_at hl 1 rfl) ?_
  refine lv_ior hx hb dX2_of_7 ?_
  subst hm
  exact ro_iret hx hb hr rfl rfl dX2_of_8 hlocks
def mX2_length (p0 : Int32) : Int32 :=
  (p0 &&& 15)
abbrev rmX2_length : Room := { frames := 0, cells := 0, slots := 0, locals := 0 }
theorem hdX2_length : yX2_length.cls = RX2 ∧ yX2_length.cls ≠ "java/lang/invoke/MethodHandle" ∧ yX2_length.cls ≠ "java/lang/invoke/VarHandle" ∧ (parseMethodDescriptor yX2_length.desc).map (fun d => d.parameters.length) = some 1 := by decide +kernel
set_option maxHeartbeats 4000000 in
set_option maxRecDepth 100000 in
theorem kX2_length (l : Launch) (p0 : Int32) : Met l yX2_length wsX2_length rmX2_length (spc [.int p0]) (vp_Si (fun x => x = (mX2_length p0))) 0 0 (fun _ => False) := by
  obtain ⟨r, hm⟩ : ∃ r, mX2_length p0 = r := ⟨_, rfl⟩
  rw [hm]
  unfold mX2_length at hm
  refine sp_ofW (cc := cX2_length) (maxL := 1) (ret := (some .int)) (own := RX2) (by decide) rfl rfl (Nat.le_of_ble_eq_true rfl) ?_
  intro p e s m args below meth c hx hb hr hts hown hlocks hml ls hl
  have hl : lv_has ls 1 [(0, .int p0)] := hl
  refine lv_iload_n hx hb dX2_length_0 rfl (lv_at hl 0 rfl) ?_
  refine lv_bipush (v := 15) hx hb dX2_length_1 (by decide) ?_
  refine lv_iand hx hb dX2_length_3 ?_
  subst hm
  exact ro_iret hx hb hr rfl rfl dX2_length_4 hlocks
def mX2_letters (p0 : Int32) : Int32 :=
  (p0 >>> ((mX2_bitsBehind (mX2_length p0)) &&& 31))
abbrev rmX2_letters : Room := { frames := 1, cells := 0, slots := 0, locals := 20 }
theorem hdX2_letters : yX2_letters.cls = RX2 ∧ yX2_letters.cls ≠ "java/lang/invoke/MethodHandle" ∧ yX2_letters.cls ≠ "java/lang/invoke/VarHandle" ∧ (parseMethodDescriptor yX2_letters.desc).map (fun d => d.parameters.length) = some 1 := by decide +kernel
set_option maxHeartbeats 4000000 in
set_option maxRecDepth 100000 in
theorem kX2_letters (l : Launch) (p0 : Int32) : Met l yX2_letters wsX2_letters rmX2_letters (spc [.int p0]) (vp_Si (fun x => x = (mX2_letters p0))) 0 0 (fun _ => False) := by
  obtain ⟨r, hm⟩ : ∃ r, mX2_letters p0 = r := ⟨_, rfl⟩
  rw [hm]
  unfold mX2_letters at hm
  refine sp_ofW (cc := cX2_letters) (maxL := 1) (ret := (some .int)) (own := RX2) (by decide) rfl rfl (Nat.le_of_ble_eq_true rfl) ?_
  intro p e s m args below meth c hx hb hr hts hown hlocks hml ls hl
  have hl : lv_has ls 1 [(0, .int p0)] := hl
  refine lv_iload_n hx hb dX2_letters_0 rfl (lv_at hl 0 rfl) ?_
  refine lv_iload_n hx hb dX2_letters_1 rfl (lv_at hl 0 rfl) ?_
  refine sp_callSe ⟨hx, hb, hml, hown, hts⟩ (kX2_length l p0) (va_cwS 1 hts gX2_letters_X2_length rfl rfl rfl hdX2_length.2 ⟨Nat.le_of_ble_eq_true rfl, Nat.le_of_ble_eq_true rfl⟩) rfl hl.1 rfl (Nat.le_of_ble_eq_true rfl) dX2_letters_2 ⟨Nat.zero_le _, Nat.zero_le _⟩ ?_
  refine sp_callSe ⟨hx, hb, hml, hown, hts⟩ (kX2_bitsBehind l (mX2_length p0)) (va_cwS 1 hts gX2_letters_X2_bitsBehind rfl rfl rfl hdX2_bitsBehind.2 ⟨Nat.le_of_ble_eq_true rfl, Nat.le_of_ble_eq_true rfl⟩) rfl hl.1 rfl (Nat.le_of_ble_eq_true rfl) dX2_letters_5 ⟨Nat.zero_le _, Nat.zero_le _⟩ ?_
  refine lv_ishr hx hb dX2_letters_8 ?_
  subst hm
  exact ro_iret hx hb hr rfl rfl dX2_letters_9 hlocks
def mX2_lastLetters (p0 : Int32) (p1 : Int32) : Int32 :=
  ((mX2_letters p0) &&& ((1 <<< ((3 * p1) &&& 31)) - 1))
abbrev rmX2_lastLetters : Room := { frames := 2, cells := 0, slots := 0, locals := 40 }
theorem hdX2_lastLetters : yX2_lastLetters.cls = RX2 ∧ yX2_lastLetters.cls ≠ "java/lang/invoke/MethodHandle" ∧ yX2_lastLetters.cls ≠ "java/lang/invoke/VarHandle" ∧ (parseMethodDescriptor yX2_lastLetters.desc).map (fun d => d.parameters.length) = some 2 := by decide +kernel
set_option maxHeartbeats 4000000 in
set_option maxRecDepth 100000 in
theorem kX2_lastLetters (l : Launch) (p0 p1 : Int32) : Met l yX2_lastLetters wsX2_lastLetters rmX2_lastLetters (spc [.int p0, .int p1]) (vp_Si (fun x => x = (mX2_lastLetters p0 p1))) 0 0 (fun _ => False) := by
  obtain ⟨r, hm⟩ : ∃ r, mX2_lastLetters p0 p1 = r := ⟨_, rfl⟩
  rw [hm]
  unfold mX2_lastLetters at hm
  refine sp_ofW (cc := cX2_lastLetters) (maxL := 2) (ret := (some .int)) (own := RX2) (by decide) rfl rfl (Nat.le_of_ble_eq_true rfl) ?_
  intro p e s m args below meth c hx hb hr hts hown hlocks hml ls hl
  have hl : lv_has ls 2 [(0, .int p0), (1, .int p1)] := hl
  refine lv_iload_n hx hb dX2_lastLetters_0 rfl (lv_at hl 0 rfl) ?_
  refine sp_callSe ⟨hx, hb, hml, hown, hts⟩ (kX2_letters l p0) (va_cwS 1 hts gX2_lastLetters_X2_letters rfl rfl rfl hdX2_letters.2 ⟨Nat.le_of_ble_eq_true rfl, Nat.le_of_ble_eq_true rfl⟩) rfl hl.1 rfl (Nat.le_of_ble_eq_true rfl) dX2_lastLetters_1 ⟨Nat.zero_le _, Nat.zero_le _⟩ ?_
  refine lv_iconst (v := 1) hx hb dX2_lastLetters_4 (by decide) ?_
  refine lv_iconst (v := 3) hx hb dX2_lastLetters_5 (by decide) ?_
  refine lv_iload_n hx hb dX2_lastLetters_6 rfl (lv_at hl 1 rfl) ?_
  refine lv_imul hx hb dX2_lastLetters_7 ?_
  refine lv_ishl hx hb dX2_lastLetters_8 ?_
  refine lv_iconst (v := 1) hx hb dX2_lastLetters_9 (by decide) ?_
  refine lv_isub hx hb dX2_lastLetters_10 ?_
  refine lv_iand hx hb dX2_lastLetters_11 ?_
  subst hm
  exact ro_iret hx hb hr rfl rfl dX2_lastLetters_12 hlocks
def mX2_cut (p0 : Int32) (p1 : Int32) : Int32 :=
  (((p0 >>> ((mX2_bitsBehind p1) &&& 31)) <<< ((mX2_bitsBehind p1) &&& 31)) ||| p1)
abbrev rmX2_cut : Room := { frames := 1, cells := 0, slots := 0, locals := 20 }
theorem hdX2_cut : yX2_cut.cls = RX2 ∧ yX2_cut.cls ≠ "java/lang/invoke/MethodHandle" ∧ yX2_cut.cls ≠ "java/lang/invoke/VarHandle" ∧ (parseMethodDescriptor yX2_cut.desc).map (fun d => d.parameters.length) = some 2 := by decide +kernel
set_option maxHeartbeats 4000000 in
set_option maxRecDepth 100000 in
theorem kX2_cut (l : Launch) (p0 p1 : Int32) : Met l yX2_cut wsX2_cut rmX2_cut (spc [.int p0, .int p1]) (vp_Si (fun x => x = (mX2_cut p0 p1))) 0 0 (fun _ => False) := by
  obtain ⟨r, hm⟩ : ∃ r, mX2_cut p0 p1 = r := ⟨_, rfl⟩
  rw [hm]
  unfold mX2_cut at hm
  refine sp_ofW (cc := cX2_cut) (maxL := 3) (ret := (some .int)) (own := RX2) (by decide) rfl rfl (Nat.le_of_ble_eq_true rfl) ?_
  intro p e s m args below meth c hx hb hr hts hown hlocks hml ls hl
  have hl : lv_has ls 3 [(0, .int p0), (1, .int p1)] := hl
  refine lv_iload_n hx hb dX2_cut_0 rfl (lv_at hl 1 rfl) ?_
  refine sp_callSe ⟨hx, hb, hml, hown, hts⟩ (kX2_bitsBehind l p1) (va_cwS 1 hts gX2_cut_X2_bitsBehind rfl rfl rfl hdX2_bitsBehind.2 ⟨Nat.le_of_ble_eq_true rfl, Nat.le_of_ble_eq_true rfl⟩) rfl hl.1 rfl (Nat.le_of_ble_eq_true rfl) dX2_cut_1 ⟨Nat.zero_le _, Nat.zero_le _⟩ ?_
  refine lv_istore_n (lv' := [(2, .int (mX2_bitsBehind p1)), (0, .int p0), (1, .int p1)]) hx hb dX2_cut_4 rfl hl (by decide) rfl (fun ls hl => ?_)
  refine lv_iload_n hx hb dX2_cut_5 rfl (lv_at hl 1 rfl) ?_
  refine lv_iload_n hx hb dX2_cut_6 rfl (lv_at hl 0 rfl) ?_
  refine lv_ishr hx hb dX2_cut_7 ?_
  refine lv_iload_n hx hb dX2_cut_8 rfl (lv_at hl 0 rfl) ?_
  refine lv_ishl hx hb dX2_cut_9 ?_
  refine lv_iload_n hx hb dX2_cut_10 rfl (lv_at hl 2 rfl) ?_
  refine lv_ior hx hb dX2_cut_11 ?_
  subst hm
  exact ro_iret hx hb hr rfl rfl dX2_cut_12 hlocks
def mX2_isBeginning (p0 : Int32) (p1 : Int32) : Int32 :=
  (if (mX2_length p1) < (mX2_length p0) then 0 else (if (p0 >>> ((mX2_bitsBehind (mX2_length p0)) &&& 31)) = (p1 >>> ((mX2_bitsBehind (mX2_length p0)) &&& 31)) then (1 : Int32) else 0))
abbrev rmX2_isBeginning : Room := { frames := 1, cells := 0, slots := 0, locals := 20 }
theorem hdX2_isBeginning : yX2_isBeginning.cls = RX2 ∧ yX2_isBeginning.cls ≠ "java/lang/invoke/MethodHandle" ∧ yX2_isBeginning.cls ≠ "java/lang/invoke/VarHandle" ∧ (parseMethodDescriptor yX2_isBeginning.desc).map (fun d => d.parameters.length) = some 2 := by decide +kernel
set_option maxHeartbeats 4000000 in
set_option maxRecDepth 100000 in
theorem kX2_isBeginning (l : Launch) (p0 p1 : Int32) : Met l yX2_isBeginning wsX2_isBeginning rmX2_isBeginning (spc [.int p0, .int p1]) (vp_Si (fun x => x = (mX2_isBeginning p0 p1) ∧ nbr (mX2_isBeginning p0 p1))) 0 0 (fun _ => False) := by
  obtain ⟨r, hm⟩ : ∃ r, mX2_isBeginning p0 p1 = r := ⟨_, rfl⟩
  rw [hm]
  unfold mX2_isBeginning at hm
  refine sp_ofW (cc := cX2_isBeginning) (maxL := 3) (ret := (some .boolean)) (own := RX2) (by decide) rfl rfl (Nat.le_of_ble_eq_true rfl) ?_
  intro p e s m args below meth c hx hb hr hts hown hlocks hml ls hl
  have hl : lv_has ls 3 [(0, .int p0), (1, .int p1)] := hl
  refine lv_iload_n hx hb dX2_isBeginning_0 rfl (lv_at hl 0 rfl) ?_
  refine sp_callSe ⟨hx, hb, hml, hown, hts⟩ (kX2_length l p0) (va_cwS 1 hts gX2_isBeginning_X2_length rfl rfl rfl hdX2_length.2 ⟨Nat.le_of_ble_eq_true rfl, Nat.le_of_ble_eq_true rfl⟩) rfl hl.1 rfl (Nat.le_of_ble_eq_true rfl) dX2_isBeginning_1 ⟨Nat.zero_le _, Nat.zero_le _⟩ ?_
  refine sp_callSe ⟨hx, hb, hml, hown, hts⟩ (kX2_bitsBehind l (mX2_length p0)) (va_cwS 1 hts gX2_isBeginning_X2_bitsBehind rfl rfl rfl hdX2_bitsBehind.2 ⟨Nat.le_of_ble_eq_true rfl, Nat.le_of_ble_eq_true rfl⟩) rfl hl.1 rfl (Nat.le_of_ble_eq_true rfl) dX2_isBeginning_4 ⟨Nat.zero_le _, Nat.zero_le _⟩ ?_
  refine lv_istore_n (lv' := [(2, .int (mX2_bitsBehind (mX2_length p0))), (0, .int p0), (1, .int p1)]) hx hb dX2_isBeginning_7 rfl hl (by decide) rfl (fun ls hl => ?_)
  refine lv_iload_n hx hb dX2_isBeginning_8 rfl (lv_at hl 1 rfl) ?_
  refine sp_callSe ⟨hx, hb, hml, hown, hts⟩ (kX2_length l p0) (va_cwS 1 hts gX2_isBeginning_X2_length rfl rfl rfl hdX2_length.2 ⟨Nat.le_of_ble_eq_true rfl, Nat.le_of_ble_eq_true rfl⟩) rfl hl.1 rfl (Nat.le_of_ble_eq_true rfl) dX2_isBeginning_9 ⟨Nat.zero_le _, Nat.zero_le _⟩ ?_
  refine lv_iload_n hx hb dX2_isBeginning_12 rfl (lv_at hl 2 rfl) ?_
  refine sp_callSe ⟨hx, hb, hml, hown, hts⟩ (kX2_length l p1) (va_cwS 1 hts gX2_isBeginning_X2_length rfl rfl rfl hdX2_length.2 ⟨Nat.le_of_ble_eq_true rfl, Nat.le_of_ble_eq_true rfl⟩) rfl hl.1 rfl (Nat.le_of_ble_eq_true rfl) dX2_isBeginning_13 ⟨Nat.zero_le _, Nat.zero_le _⟩ ?_
  refine lv_icmp_gt (tgt := 32) hx hb dX2_isBeginning_16 (by decide) (fun c16 => ?_) (fun c16 => ?_)
  · try simp only [if_pos c16] at hm
    refine lv_iconst (v := 0) hx hb dX2_isBeginning_32 (by decide) ?_
    subst hm
    exact ro_iret hx hb hr rfl ⟨rfl, rfl⟩ dX2_isBeginning_33 hlocks
  · try simp only [if_neg c16] at hm
    refine lv_iload_n hx hb dX2_isBeginning_19 rfl (lv_at hl 1 rfl) ?_
    refine lv_iload_n hx hb dX2_isBeginning_20 rfl (lv_at hl 0 rfl) ?_
    refine lv_ishr hx hb dX2_isBeginning_21 ?_
    refine lv_iload_n hx hb dX2_isBeginning_22 rfl (lv_at hl 2 rfl) ?_
    refine lv_iload_n hx hb dX2_isBeginning_23 rfl (lv_at hl 0 rfl) ?_
    refine lv_ishr hx hb dX2_isBeginning_24 ?_
    refine lv_icmp_ne (tgt := 32) hx hb dX2_isBeginning_25 (by decide) (fun c25 => ?_) (fun c25 => ?_)
    · try simp only [if_neg c25] at hm
      refine lv_iconst (v := 0) hx hb dX2_isBeginning_32 (by decide) ?_
      subst hm
      exact ro_iret hx hb hr rfl ⟨rfl, rfl⟩ dX2_isBeginning_33 hlocks
    · try simp only [if_pos c25] at hm
      refine lv_iconst (v := 1) hx hb dX2_isBeginning_28 (by decide) ?_
      refine lv_goto (tgt := 33) hx hb dX2_isBeginning_29 (by decide) ?_
      subst hm
      exact ro_iret hx hb hr rfl ⟨rfl, rfl⟩ dX2_isBeginning_33 hlocks
def mX3_at (n_t_cells : Nat) (f_t_cells : Nat → Int32) (p1 : Int32) : Int32 :=
  (if p1 < 0 then 0 else (if (Int32.ofNat n_t_cells) ≤ p1 then 0 else (f_t_cells p1.toNatClampNeg)))
abbrev rmX3_at : Room := { frames := 0, cells := 0, slots := 0, locals := 0 }
abbrev wX3_at (cA : ClassId) (a_t a_t_cells n_t_cells : Nat) (f_t_cells : Nat → Int32) : va_W := [(a_t, .inr (2, [.ref a_t_cells])), (a_t_cells, .inl (cA, n_t_cells, .inl f_t_cells))]
theorem iX3_at_X3 : ∀ w ∈ wsX30, w ∈ wsX3_at := (fun _ h => List.mem_cons_of_mem _ (List.mem_append_right _ h))
theorem hdX3_at : yX3_at.cls = RX3 ∧ yX3_at.cls ≠ "java/lang/invoke/MethodHandle" ∧ yX3_at.cls ≠ "java/lang/invoke/VarHandle" ∧ (parseMethodDescriptor yX3_at.desc).map (fun d => d.parameters.length) = some 1 := by decide +kernel
set_option maxHeartbeats 4000000 in
set_option maxRecDepth 100000 in
theorem kX3_at (l : Launch) (dC : Nat → ClassId) (dI : Nat → Nat → Nat) (cA : ClassId) (a_t a_t_cells n_t_cells : Nat) (hn_t_cells : n_t_cells < 2 ^ 31) (f_t_cells : Nat → Int32) (p1 : Int32) : Met l yX3_at wsX3_at rmX3_at (rpc (dC, dI) [(cA, .int)] (wX3_at cA a_t a_t_cells n_t_cells f_t_cells) [.ref a_t, .int p1]) (vp_Si (fun x => x = (mX3_at n_t_cells f_t_cells p1))) 0 0 (fun _ => False) := by
  obtain ⟨r, hm⟩ : ∃ r, mX3_at n_t_cells f_t_cells p1 = r := ⟨_, rfl⟩
  rw [hm]
  unfold mX3_at at hm
  refine ro_ofW (cc := cX3_at) (maxL := 2) (ret := (some .int)) (own := RX3) (by decide) rfl rfl (Nat.le_of_ble_eq_true rfl) ?_
  intro p e s m args below meth c hx hb hr hts hown hlocks hml hP hK ls hl
  have hl : lv_has ls 2 [(0, .ref a_t), (1, .int p1)] := hl
  have hP : va_P (dC, dI) vwCl [(a_t, .inr (2, [.ref a_t_cells])), (a_t_cells, .inl (cA, n_t_cells, .inl f_t_cells))] s.heap := hP
  refine lv_iload_n hx hb dX3_at_0 rfl (lv_at hl 1 rfl) ?_
  refine lv_if_lt (tgt := 22) hx hb dX3_at_1 (by decide) (fun c1 => ?_) (fun c1 => ?_)
  · try simp only [if_pos c1] at hm
    refine lv_iconst (v := 0) hx hb dX3_at_22 (by decide) ?_
    subst hm
    exact ro_iret hx hb hr rfl rfl dX3_at_23 hlocks
  · try simp only [if_neg c1] at hm
    refine lv_iload_n hx hb dX3_at_4 rfl (lv_at hl 1 rfl) ?_
    refine lv_aload_n hx hb dX3_at_5 rfl (lv_at hl 0 rfl) ?_
    refine va_get (D := (dC, dI)) (ci := 2) (C := RX3) (T := TX3) (N := 1) hx hb hts iX3_at_X3 hown hK hP 0 rfl rfl 0 (by decide) (hts _ (List.mem_of_getElem? (i := 1) rfl)) (fun _ h9 => h9) rfl dX3_at_6 ?_
    refine va_alen (v := (Int32.ofNat n_t_cells)) hx hb hK hP 1 0 rfl rfl rfl dX3_at_9 ?_
    refine lv_icmp_ge (tgt := 22) hx hb dX3_at_10 (by decide) (fun c10 => ?_) (fun c10 => ?_)
    · try simp only [if_pos c10] at hm
      refine lv_iconst (v := 0) hx hb dX3_at_22 (by decide) ?_
      subst hm
      exact ro_iret hx hb hr rfl rfl dX3_at_23 hlocks
    · try simp only [if_neg c10] at hm
      refine lv_aload_n hx hb dX3_at_13 rfl (lv_at hl 0 rfl) ?_
      refine va_get (D := (dC, dI)) (ci := 2) (C := RX3) (T := TX3) (N := 1) hx hb hts iX3_at_X3 hown hK hP 0 rfl rfl 0 (by decide) (hts _ (List.mem_of_getElem? (i := 1) rfl)) (fun _ h9 => h9) rfl dX3_at_14 ?_
      refine lv_iload_n hx hb dX3_at_17 rfl (lv_at hl 1 rfl) ?_
      refine va_iald hx hb hK hP 1 0 rfl rfl (in_guard c1 c10 hn_t_cells) dX3_at_18 ?_
      refine lv_goto (tgt := 23) hx hb dX3_at_19 (by decide) ?_
      subst hm
      exact ro_iret hx hb hr rfl rfl dX3_at_23 hlocks
def mX3_put (n_t_cells : Nat) (f_t_cells : Nat → Int32) (p1 : Int32) (p2 : Int32) : Option ((Nat → Int32)) :=
  some (if p1 < 0 then f_t_cells else (if (Int32.ofNat n_t_cells) ≤ p1 then f_t_cells else (upd f_t_cells p1.toNatClampNeg p2)))
abbrev rmX3_put : Room := { frames := 0, cells := 0, slots := 0, locals := 0 }
abbrev wX3_put (cA : ClassId) (a_t a_t_cells n_t_cells : Nat) (f_t_cells : Nat → Int32) : va_W := [(a_t, .inr (2, [.ref a_t_cells])), (a_t_cells, .inl (cA, n_t_cells, .inl f_t_cells))]
theorem iX3_put_X3 : ∀ w ∈ wsX30, w ∈ wsX3_put := (fun _ h => List.mem_cons_of_mem _ (List.mem_append_right _ h))
theorem hdX3_put : yX3_put.cls = RX3 ∧ yX3_put.cls ≠ "java/lang/invoke/MethodHandle" ∧ yX3_put.cls ≠ "java/lang/invoke/VarHandle" ∧ (parseMethodDescriptor yX3_put.desc).map (fun d => d.parameters.length) = some 2 := by decide +kernel
set_option maxHeartbeats 4000000 in
set_option maxRecDepth 100000 in
theorem kX3_put (l : Launch) (dC : Nat → ClassId) (dI : Nat → Nat → Nat) (cA : ClassId) (a_t a_t_cells n_t_cells : Nat) (hn_t_cells : n_t_cells < 2 ^ 31) (f_t_cells : Nat → Int32) (p1 p2 : Int32) (sz : Nat) (o_f_t_cells : Nat → Int32) (hm : (mX3_put n_t_cells f_t_cells p1 p2) = some o_f_t_cells) : Met l yX3_put wsX3_put rmX3_put (mpc (dC, dI) [(cA, .int)] (wX3_put cA a_t a_t_cells n_t_cells f_t_cells) [.ref a_t, .int p1, .int p2] sz) (mqv (dC, dI) [(cA, .int)] (va_A (wX3_put cA a_t a_t_cells n_t_cells f_t_cells) sz) (wX3_put cA a_t a_t_cells n_t_cells o_f_t_cells)) 0 0 (va_A (wX3_put cA a_t a_t_cells n_t_cells f_t_cells) sz) := by
  unfold mX3_put at hm
  refine mu_ofW (Qc := fun A => mqv (dC, dI) [(cA, .int)] A (wX3_put cA a_t a_t_cells n_t_cells o_f_t_cells)) (cc := cX3_put) (maxL := 3) (ret := none) (own := RX3) (by decide) rfl rfl (Nat.le_of_ble_eq_true rfl) ?_
  intro p e s m args below meth c hx hb hr hts hown hlocks hml hin A hA hP hD hS hK ls hl
  have hl : lv_has ls 3 [(0, .ref a_t), (1, .int p1), (2, .int p2)] := hl
  have hP : va_P (dC, dI) vwCl [(a_t, .inr (2, [.ref a_t_cells])), (a_t_cells, .inl (cA, n_t_cells, .inl f_t_cells))] s.heap := hP
  have hD : va_D A [(a_t, .inr (2, [.ref a_t_cells])), (a_t_cells, .inl (cA, n_t_cells, .inl f_t_cells))] := hD
  refine lv_iload_n hx hb dX3_put_0 rfl (lv_at hl 1 rfl) ?_
  refine lv_if_lt (tgt := 20) hx hb dX3_put_1 (by decide) (fun c1 => ?_) (fun c1 => ?_)
  · try simp only [if_pos c1] at hm
    cases hm
    exact mu_vret hx hb hr hP hD hS hK [0, 1] rfl (by decide) dX3_put_20 hlocks
  · try simp only [if_neg c1] at hm
    refine lv_iload_n hx hb dX3_put_4 rfl (lv_at hl 1 rfl) ?_
    refine lv_aload_n hx hb dX3_put_5 rfl (lv_at hl 0 rfl) ?_
    refine va_get (D := (dC, dI)) (ci := 2) (C := RX3) (T := TX3) (N := 1) hx hb hts iX3_put_X3 hown hK hP 0 rfl rfl 0 (by decide) (hts _ (List.mem_of_getElem? (i := 1) rfl)) (fun _ h9 => h9) rfl dX3_put_6 ?_
    refine va_alen (v := (Int32.ofNat n_t_cells)) hx hb hK hP 1 0 rfl rfl rfl dX3_put_9 ?_
    refine lv_icmp_ge (tgt := 20) hx hb dX3_put_10 (by decide) (fun c10 => ?_) (fun c10 => ?_)
    · try simp only [if_pos c10] at hm
      cases hm
      exact mu_vret hx hb hr hP hD hS hK [0, 1] rfl (by decide) dX3_put_20 hlocks
    · try simp only [if_neg c10] at hm
      refine lv_aload_n hx hb dX3_put_13 rfl (lv_at hl 0 rfl) ?_
      refine va_get (D := (dC, dI)) (ci := 2) (C := RX3) (T := TX3) (N := 1) hx hb hts iX3_put_X3 hown hK hP 0 rfl rfl 0 (by decide) (hts _ (List.mem_of_getElem? (i := 1) rfl)) (fun _ h9 => h9) rfl dX3_put_14 ?_
      refine lv_iload_n hx hb dX3_put_17 rfl (lv_at hl 1 rfl) ?_
      refine lv_iload_n hx hb dX3_put_18 rfl (lv_at hl 2 rfl) ?_
      refine va_iast hx hb hK hP hD hS 1 0 rfl rfl (in_guard c1 c10 hn_t_cells) dX3_put_19 (fun H locs hP hD hS => ?_)
      have hP : va_P (dC, dI) vwCl [(a_t, .inr (2, [.ref a_t_cells])), (a_t_cells, .inl (cA, n_t_cells, .inl (upd f_t_cells p1.toNatClampNeg p2)))] H := hP
      have hD : va_D A [(a_t, .inr (2, [.ref a_t_cells])), (a_t_cells, .inl (cA, n_t_cells, .inl (upd f_t_cells p1.toNatClampNeg p2)))] := hD
      cases hm
      exact mu_vret hx hb hr hP hD hS hK [0, 1] rfl (by decide) dX3_put_20 hlocks
def mX3_increase (n_t_cells : Nat) (f_t_cells : Nat → Int32) (p1 : Int32) (p2 : Int32) : Option ((Nat → Int32)) :=
  ((mX3_put n_t_cells f_t_cells p1 ((mX3_at n_t_cells f_t_cells p1) + p2)).bind fun f_t_cells_9 =>
  some f_t_cells_9)
abbrev rmX3_increase : Room := { frames := 1, cells := 0, slots := 0, locals := 22 }
abbrev wX3_increase (cA : ClassId) (a_t a_t_cells n_t_cells : Nat) (f_t_cells : Nat → Int32) : va_W := [(a_t, .inr (2, [.ref a_t_cells])), (a_t_cells, .inl (cA, n_t_cells, .inl f_t_cells))]
theorem hdX3_increase : yX3_increase.cls = RX3 ∧ yX3_increase.cls ≠ "java/lang/invoke/MethodHandle" ∧ yX3_increase.cls ≠ "java/lang/invoke/VarHandle" ∧ (parseMethodDescriptor yX3_increase.desc).map (fun d => d.parameters.length) = some 2 := by decide +kernel
set_option maxHeartbeats 4000000 in
set_option maxRecDepth 100000 in
theorem kX3_increase (l : Launch) (dC : Nat → ClassId) (dI : Nat → Nat → Nat) (cA : ClassId) (a_t a_t_cells n_t_cells : Nat) (hn_t_cells : n_t_cells < 2 ^ 31) (f_t_cells : Nat → Int32) (p1 p2 : Int32) (sz : Nat) (o_f_t_cells : Nat → Int32) (hm : (mX3_increase n_t_cells f_t_cells p1 p2) = some o_f_t_cells) : Met l yX3_increase wsX3_increase rmX3_increase (mpc (dC, dI) [(cA, .int)] (wX3_increase cA a_t a_t_cells n_t_cells f_t_cells) [.ref a_t, .int p1, .int p2] sz) (mqv (dC, dI) [(cA, .int)] (va_A (wX3_increase cA a_t a_t_cells n_t_cells f_t_cells) sz) (wX3_increase cA a_t a_t_cells n_t_cells o_f_t_cells)) 0 0 (va_A (wX3_increase cA a_t a_t_cells n_t_cells f_t_cells) sz) := by
  unfold mX3_increase at hm
  refine mu_ofW (Qc := fun A => mqv (dC, dI) [(cA, .int)] A (wX3_increase cA a_t a_t_cells n_t_cells o_f_t_cells)) (cc := cX3_increase) (maxL := 3) (ret := none) (own := RX3) (by decide) rfl rfl (Nat.le_of_ble_eq_true rfl) ?_
  intro p e s m args below meth c hx hb hr hts hown hlocks hml hin A hA hP hD hS hK ls hl
  have hl : lv_has ls 3 [(0, .ref a_t), (1, .int p1), (2, .int p2)] := hl
  have hP : va_P (dC, dI) vwCl [(a_t, .inr (2, [.ref a_t_cells])), (a_t_cells, .inl (cA, n_t_cells, .inl f_t_cells))] s.heap := hP
  have hD : va_D A [(a_t, .inr (2, [.ref a_t_cells])), (a_t_cells, .inl (cA, n_t_cells, .inl f_t_cells))] := hD
  refine lv_aload_n hx hb dX3_increase_0 rfl (lv_at hl 0 rfl) ?_
  refine lv_iload_n hx hb dX3_increase_1 rfl (lv_at hl 1 rfl) ?_
  refine lv_aload_n hx hb dX3_increase_2 rfl (lv_at hl 0 rfl) ?_
  refine lv_iload_n hx hb dX3_increase_3 rfl (lv_at hl 1 rfl) ?_
  refine ro_callVe ⟨hx, hb, hml, hown, hts⟩ (kX3_at l dC dI cA a_t a_t_cells n_t_cells hn_t_cells f_t_cells p1) (cwV 1 hts gX3_increase_X3_at rfl rfl rfl hdX3_at ⟨Nat.le_of_ble_eq_true rfl, Nat.le_of_ble_eq_true rfl⟩) (hP.sub [0, 1] rfl) hK rfl rfl rfl hl.1 rfl (Nat.le_of_ble_eq_true rfl) dX3_increase_4 ⟨Nat.zero_le _, Nat.zero_le _⟩ ?_
  refine lv_iload_n hx hb dX3_increase_7 rfl (lv_at hl 2 rfl) ?_
  refine lv_iadd hx hb dX3_increase_8 ?_
  obtain ⟨f_t_cells_9, e9, hm⟩ := bs hm
  try dsimp only at hm
  refine mu_callVv (wr := []) ⟨hx, hb, hml, hown, hts⟩ (kX3_put l dC dI cA a_t a_t_cells n_t_cells hn_t_cells f_t_cells p1 ((mX3_at n_t_cells f_t_cells p1) + p2) _ f_t_cells_9 e9) (cwV 2 hts gX3_increase_X3_put rfl rfl rfl hdX3_put ⟨Nat.le_of_ble_eq_true rfl, Nat.le_of_ble_eq_true rfl⟩) hP hD hS hA hK [0, 1] [] rfl rfl rfl rfl (by decide) rfl rfl rfl hl.1 rfl (Nat.le_of_ble_eq_true rfl) dX3_increase_9 ⟨Nat.zero_le _, Nat.zero_le _⟩ (fun H locs hP hD hS => ?_)
  have hP : va_P (dC, dI) vwCl [(a_t, .inr (2, [.ref a_t_cells])), (a_t_cells, .inl (cA, n_t_cells, .inl f_t_cells_9))] H := hP
  have hD : va_D A [(a_t, .inr (2, [.ref a_t_cells])), (a_t_cells, .inl (cA, n_t_cells, .inl f_t_cells_9))] := hD
  cases hm
  exact mu_vret hx hb hr hP hD hS hK [0, 1] rfl (by decide) dX3_increase_12 hlocks
def mX3_openAt_L2 (x1_2 : Int32) (n_t_cells : Nat) : Nat → (Int32) → (Nat → Int32) → Option (Int32 × (Nat → Int32))
  | 0, _, _ => none
  | n + 1, x3_2, f_t_cells_L2 =>
    (if x3_2 ≤ x1_2 then
      some (x3_2, f_t_cells_L2)
    else
      ((mX3_put n_t_cells f_t_cells_L2 x3_2 (mX3_at n_t_cells f_t_cells_L2 (x3_2 - 1))).bind fun f_t_cells_16 =>
      mX3_openAt_L2 x1_2 n_t_cells n (x3_2 + (-1)) f_t_cells_16))
def mX3_openAt (n_t_cells : Nat) (f_t_cells : Nat → Int32) (p1 : Int32) (p2 : Int32) : Option ((Nat → Int32)) :=
  ((mX3_openAt_L2 p1 n_t_cells FU p2 f_t_cells).bind fun (y3_2, f_t_cells_E2) =>
  some f_t_cells_E2)
abbrev rmX3_openAt : Room := { frames := 1, cells := 0, slots := 0, locals := 22 }
abbrev wX3_openAt (cA : ClassId) (a_t a_t_cells n_t_cells : Nat) (f_t_cells : Nat → Int32) : va_W := [(a_t, .inr (2, [.ref a_t_cells])), (a_t_cells, .inl (cA, n_t_cells, .inl f_t_cells))]
theorem hdX3_openAt : yX3_openAt.cls = RX3 ∧ yX3_openAt.cls ≠ "java/lang/invoke/MethodHandle" ∧ yX3_openAt.cls ≠ "java/lang/invoke/VarHandle" ∧ (parseMethodDescriptor yX3_openAt.desc).map (fun d => d.parameters.length) = some 2 := by decide +kernel
set_option maxHeartbeats 4000000 in
set_option maxRecDepth 100000 in
theorem wX3_openAt_L2 {p : Program} {l : Launch} {e : Env} {s : State} {m : MethodId} {args : Array Value} {below : List Frame} {meth : Method} {c : Code} {Q : State → Prop} {A : Nat → Prop} (dC : Nat → ClassId) (dI : Nat → Nat → Nat) (cA : ClassId) (a_t a_t_cells n_t_cells : Nat) (hn_t_cells : n_t_cells < 2 ^ 31) (p1 p2 x1_2 y3_2 : Int32) (f_t_cells_E2 : Nat → Int32) (hx : p.tables.exec = Jvm.exec) (hb : c.code = cX3_openAt) (hml : c.maxLocals = 4) (hown : s.vm.findClass RX3 = some m.cls) (hts : ∀ w ∈ wsX3_openAt, w.before args s = true) (hA : ∀ q, s.heap.size ≤ q → A q) (hK : va_K (dC, dI) vwCl [(cA, .int)] s)
    (kk0 : ∀ (H : Heap) (locs : List Loc), va_P (dC, dI) vwCl [(a_t, .inr (2, [.ref a_t_cells])), (a_t_cells, .inl (cA, n_t_cells, .inl f_t_cells_E2))] H → va_D A [(a_t, .inr (2, [.ref a_t_cells])), (a_t_cells, .inl (cA, n_t_cells, .inl f_t_cells_E2))] → va_S A s.heap H locs → ∀ ls : Array Slot, lv_has ls 4 [(0, .ref a_t), (1, .int x1_2), (3, .int y3_2)] → W p l e (headSpec wsX3_openAt rmX3_openAt).room s m args below meth c H locs 0 0 Q (F0 m 25 ls [])) :
    ∀ (n : Nat) (x3_2 : Int32) (f_t_cells_L2 : Nat → Int32), mX3_openAt_L2 x1_2 n_t_cells n x3_2 f_t_cells_L2 = some (y3_2, f_t_cells_E2) → ∀ (H : Heap) (locs : List Loc), va_P (dC, dI) vwCl [(a_t, .inr (2, [.ref a_t_cells])), (a_t_cells, .inl (cA, n_t_cells, .inl f_t_cells_L2))] H → va_D A [(a_t, .inr (2, [.ref a_t_cells])), (a_t_cells, .inl (cA, n_t_cells, .inl f_t_cells_L2))] → va_S A s.heap H locs → ∀ ls : Array Slot, lv_has ls 4 [(0, .ref a_t), (1, .int x1_2), (3, .int x3_2)] → W p l e (headSpec wsX3_openAt rmX3_openAt).room s m args below meth c H locs 0 0 Q (F0 m 2 ls []) := by
  intro n
  induction n with
  | zero =>
    intro x3_2 f_t_cells_L2 hm
    cases hm
  | succ n ih =>
    intro x3_2 f_t_cells_L2 hm H locs hP hD hS ls hl
    rw [mX3_openAt_L2] at hm
    refine lv_iload_n hx hb dX3_openAt_2 rfl (lv_at hl 2 rfl) ?_
    refine lv_iload_n hx hb dX3_openAt_3 rfl (lv_at hl 1 rfl) ?_
    refine lv_icmp_le (tgt := 25) hx hb dX3_openAt_4 (by decide) (fun c4 => ?_) (fun c4 => ?_)
    · rw [if_pos c4] at hm
      cases hm
      exact kk0 _ _ (hP.sub [0, 1] rfl) (hD.sub [0, 1] (by decide) rfl) hS _ (lv_sub hl [0, 1, 2] rfl)
    · rw [if_neg c4] at hm
      refine lv_aload_n hx hb dX3_openAt_7 rfl (lv_at hl 0 rfl) ?_
      refine lv_iload_n hx hb dX3_openAt_8 rfl (lv_at hl 2 rfl) ?_
      refine lv_aload_n hx hb dX3_openAt_9 rfl (lv_at hl 0 rfl) ?_
      refine lv_iload_n hx hb dX3_openAt_10 rfl (lv_at hl 2 rfl) ?_
      refine lv_iconst (v := 1) hx hb dX3_openAt_11 (by decide) ?_
      refine lv_isub hx hb dX3_openAt_12 ?_
      refine ro_callVe ⟨hx, hb, hml, hown, hts⟩ (kX3_at l dC dI cA a_t a_t_cells n_t_cells hn_t_cells f_t_cells_L2 (x3_2 - 1)) (cwV 1 hts gX3_openAt_X3_at rfl rfl rfl hdX3_at ⟨Nat.le_of_ble_eq_true rfl, Nat.le_of_ble_eq_true rfl⟩) (hP.sub [0, 1] rfl) hK rfl rfl rfl hl.1 rfl (Nat.le_of_ble_eq_true rfl) dX3_openAt_13 ⟨Nat.zero_le _, Nat.zero_le _⟩ ?_
      obtain ⟨f_t_cells_16, e16, hm⟩ := bs hm
      try dsimp only at hm
      refine mu_callVv (wr := []) ⟨hx, hb, hml, hown, hts⟩ (kX3_put l dC dI cA a_t a_t_cells n_t_cells hn_t_cells f_t_cells_L2 x3_2 (mX3_at n_t_cells f_t_cells_L2 (x3_2 - 1)) _ f_t_cells_16 e16) (cwV 2 hts gX3_openAt_X3_put rfl rfl rfl hdX3_put ⟨Nat.le_of_ble_eq_true rfl, Nat.le_of_ble_eq_true rfl⟩) hP hD hS hA hK [0, 1] [] rfl rfl rfl rfl (by decide) rfl rfl rfl hl.1 rfl (Nat.le_of_ble_eq_true rfl) dX3_openAt_16 ⟨Nat.zero_le _, Nat.zero_le _⟩ (fun H locs hP hD hS => ?_)
      have hP : va_P (dC, dI) vwCl [(a_t, .inr (2, [.ref a_t_cells])), (a_t_cells, .inl (cA, n_t_cells, .inl f_t_cells_16))] H := hP
      have hD : va_D A [(a_t, .inr (2, [.ref a_t_cells])), (a_t_cells, .inl (cA, n_t_cells, .inl f_t_cells_16))] := hD
      refine lv_iinc (v := (x3_2 + (-1))) (lv' := [(3, .int (x3_2 + (-1))), (0, .ref a_t), (1, .int x1_2)]) hx hb dX3_openAt_19 hl (k := 2) rfl rfl (by decide) rfl (fun ls hl => ?_)
      refine lv_goto (tgt := 2) hx hb dX3_openAt_22 (by decide) ?_
      exact ih _ _ hm _ _ (hP.sub [0, 1] rfl) (hD.sub [0, 1] (by decide) rfl) hS _ (lv_sub hl [1, 2, 0] rfl)
set_option maxHeartbeats 4000000 in
set_option maxRecDepth 100000 in
theorem kX3_openAt (l : Launch) (dC : Nat → ClassId) (dI : Nat → Nat → Nat) (cA : ClassId) (a_t a_t_cells n_t_cells : Nat) (hn_t_cells : n_t_cells < 2 ^ 31) (f_t_cells : Nat → Int32) (p1 p2 : Int32) (sz : Nat) (o_f_t_cells : Nat → Int32) (hm : (mX3_openAt n_t_cells f_t_cells p1 p2) = some o_f_t_cells) : Met l yX3_openAt wsX3_openAt rmX3_openAt (mpc (dC, dI) [(cA, .int)] (wX3_openAt cA a_t a_t_cells n_t_cells f_t_cells) [.ref a_t, .int p1, .int p2] sz) (mqv (dC, dI) [(cA, .int)] (va_A (wX3_openAt cA a_t a_t_cells n_t_cells f_t_cells) sz) (wX3_openAt cA a_t a_t_cells n_t_cells o_f_t_cells)) 0 0 (va_A (wX3_openAt cA a_t a_t_cells n_t_cells f_t_cells) sz) := by
  unfold mX3_openAt at hm
  refine mu_ofW (Qc := fun A => mqv (dC, dI) [(cA, .int)] A (wX3_openAt cA a_t a_t_cells n_t_cells o_f_t_cells)) (cc := cX3_openAt) (maxL := 4) (ret := none) (own := RX3) (by decide) rfl rfl (Nat.le_of_ble_eq_true rfl) ?_
  intro p e s m args below meth c hx hb hr hts hown hlocks hml hin A hA hP hD hS hK ls hl
  have hl : lv_has ls 4 [(0, .ref a_t), (1, .int p1), (2, .int p2)] := hl
  have hP : va_P (dC, dI) vwCl [(a_t, .inr (2, [.ref a_t_cells])), (a_t_cells, .inl (cA, n_t_cells, .inl f_t_cells))] s.heap := hP
  have hD : va_D A [(a_t, .inr (2, [.ref a_t_cells])), (a_t_cells, .inl (cA, n_t_cells, .inl f_t_cells))] := hD
  refine lv_iload_n hx hb dX3_openAt_0 rfl (lv_at hl 2 rfl) ?_
  refine lv_istore_n (lv' := [(3, .int p2), (0, .ref a_t), (1, .int p1), (2, .int p2)]) hx hb dX3_openAt_1 rfl hl (by decide) rfl (fun ls hl => ?_)
  obtain ⟨⟨y3_2, f_t_cells_E2⟩, e2, hm⟩ := bs hm
  try dsimp only at hm
  refine wX3_openAt_L2 dC dI cA a_t a_t_cells n_t_cells hn_t_cells p1 p2 p1 y3_2 f_t_cells_E2 hx hb hml hown hts hA hK ?_ FU _ _ e2 _ _ (hP.sub [0, 1] rfl) (hD.sub [0, 1] (by decide) rfl) hS _ (lv_sub hl [1, 2, 0] rfl)
  · intro H locs hP hD hS ls hl
    cases hm
    exact mu_vret hx hb hr hP hD hS hK [0, 1] rfl (by decide) dX3_openAt_25 hlocks
def mX3_closeAt_L2 (x2_2 : Int32) (n_t_cells : Nat) : Nat → (Int32) → (Nat → Int32) → Option (Int32 × (Nat → Int32))
  | 0, _, _ => none
  | n + 1, x3_2, f_t_cells_L2 =>
    (if (x2_2 - 1) ≤ x3_2 then
      some (x3_2, f_t_cells_L2)
    else
      ((mX3_put n_t_cells f_t_cells_L2 x3_2 (mX3_at n_t_cells f_t_cells_L2 (x3_2 + 1))).bind fun f_t_cells_18 =>
      mX3_closeAt_L2 x2_2 n_t_cells n (x3_2 + 1) f_t_cells_18))
def mX3_closeAt (n_t_cells : Nat) (f_t_cells : Nat → Int32) (p1 : Int32) (p2 : Int32) : Option ((Nat → Int32)) :=
  ((mX3_closeAt_L2 p2 n_t_cells FU p1 f_t_cells).bind fun (y3_2, f_t_cells_E2) =>
  some f_t_cells_E2)
abbrev rmX3_closeAt : Room := { frames := 1, cells := 0, slots := 0, locals := 22 }
abbrev wX3_closeAt (cA : ClassId) (a_t a_t_cells n_t_cells : Nat) (f_t_cells : Nat → Int32) : va_W := [(a_t, .inr (2, [.ref a_t_cells])), (a_t_cells, .inl (cA, n_t_cells, .inl f_t_cells))]
theorem hdX3_closeAt : yX3_closeAt.cls = RX3 ∧ yX3_closeAt.cls ≠ "java/lang/invoke/MethodHandle" ∧ yX3_closeAt.cls ≠ "java/lang/invoke/VarHandle" ∧ (parseMethodDescriptor yX3_closeAt.desc).map (fun d => d.parameters.length) = some 2 := by decide +kernel
set_option maxHeartbeats 4000000 in
set_option maxRecDepth 100000 in
theorem wX3_closeAt_L2 {p : Program} {l : Launch} {e : Env} {s : State} {m : MethodId} {args : Array Value} {below : List Frame} {meth : Method} {c : Code} {Q : State → Prop} {A : Nat → Prop} (dC : Nat → ClassId) (dI : Nat → Nat → Nat) (cA : ClassId) (a_t a_t_cells n_t_cells : Nat) (hn_t_cells : n_t_cells < 2 ^ 31) (p1 p2 x2_2 y3_2 : Int32) (f_t_cells_E2 : Nat → Int32) (hx : p.tables.exec = Jvm.exec) (hb : c.code = cX3_closeAt) (hml : c.maxLocals = 4) (hown : s.vm.findClass RX3 = some m.cls) (hts : ∀ w ∈ wsX3_closeAt, w.before args s = true) (hA : ∀ q, s.heap.size ≤ q → A q) (hK : va_K (dC, dI) vwCl [(cA, .int)] s)
    (kk0 : ∀ (H : Heap) (locs : List Loc), va_P (dC, dI) vwCl [(a_t, .inr (2, [.ref a_t_cells])), (a_t_cells, .inl (cA, n_t_cells, .inl f_t_cells_E2))] H → va_D A [(a_t, .inr (2, [.ref a_t_cells])), (a_t_cells, .inl (cA, n_t_cells, .inl f_t_cells_E2))] → va_S A s.heap H locs → ∀ ls : Array Slot, lv_has ls 4 [(0, .ref a_t), (2, .int x2_2), (3, .int y3_2)] → W p l e (headSpec wsX3_closeAt rmX3_closeAt).room s m args below meth c H locs 0 0 Q (F0 m 27 ls [])) :
    ∀ (n : Nat) (x3_2 : Int32) (f_t_cells_L2 : Nat → Int32), mX3_closeAt_L2 x2_2 n_t_cells n x3_2 f_t_cells_L2 = some (y3_2, f_t_cells_E2) → ∀ (H : Heap) (locs : List Loc), va_P (dC, dI) vwCl [(a_t, .inr (2, [.ref a_t_cells])), (a_t_cells, .inl (cA, n_t_cells, .inl f_t_cells_L2))] H → va_D A [(a_t, .inr (2, [.ref a_t_cells])), (a_t_cells, .inl (cA, n_t_cells, .inl f_t_cells_L2))] → va_S A s.heap H locs → ∀ ls : Array Slot, lv_has ls 4 [(0, .ref a_t), (2, .int x2_2), (3, .int x3_2)] → W p l e (headSpec wsX3_closeAt rmX3_closeAt).room s m args below meth c H locs 0 0 Q (F0 m 2 ls []) := by
  intro n
  induction n with
  | zero =>
    intro x3_2 f_t_cells_L2 hm
    cases hm
  | succ n ih =>
    intro x3_2 f_t_cells_L2 hm H locs hP hD hS ls hl
    rw [mX3_closeAt_L2] at hm
    refine lv_iload_n hx hb dX3_closeAt_2 rfl (lv_at hl 2 rfl) ?_
    refine lv_iload_n hx hb dX3_closeAt_3 rfl (lv_at hl 1 rfl) ?_
    refine lv_iconst (v := 1) hx hb dX3_closeAt_4 (by decide) ?_
    refine lv_isub hx hb dX3_closeAt_5 ?_
    refine lv_icmp_ge (tgt := 27) hx hb dX3_closeAt_6 (by decide) (fun c6 => ?_) (fun c6 => ?_)
    · rw [if_pos c6] at hm
      cases hm
      exact kk0 _ _ (hP.sub [0, 1] rfl) (hD.sub [0, 1] (by decide) rfl) hS _ (lv_sub hl [0, 1, 2] rfl)
    · rw [if_neg c6] at hm
      refine lv_aload_n hx hb dX3_closeAt_9 rfl (lv_at hl 0 rfl) ?_
      refine lv_iload_n hx hb dX3_closeAt_10 rfl (lv_at hl 2 rfl) ?_
      refine lv_aload_n hx hb dX3_closeAt_11 rfl (lv_at hl 0 rfl) ?_
      refine lv_iload_n hx hb dX3_closeAt_12 rfl (lv_at hl 2 rfl) ?_
      refine lv_iconst (v := 1) hx hb dX3_closeAt_13 (by decide) ?_
      refine lv_iadd hx hb dX3_closeAt_14 ?_
      refine ro_callVe ⟨hx, hb, hml, hown, hts⟩ (kX3_at l dC dI cA a_t a_t_cells n_t_cells hn_t_cells f_t_cells_L2 (x3_2 + 1)) (cwV 1 hts gX3_closeAt_X3_at rfl rfl rfl hdX3_at ⟨Nat.le_of_ble_eq_true rfl, Nat.le_of_ble_eq_true rfl⟩) (hP.sub [0, 1] rfl) hK rfl rfl rfl hl.1 rfl (Nat.le_of_ble_eq_true rfl) dX3_closeAt_15 ⟨Nat.zero_le _, Nat.zero_le _⟩ ?_
      obtain ⟨f_t_cells_18, e18, hm⟩ := bs hm
      try dsimp only at hm
      refine mu_callVv (wr := []) ⟨hx, hb, hml, hown, hts⟩ (kX3_put l dC dI cA a_t a_t_cells n_t_cells hn_t_cells f_t_cells_L2 x3_2 (mX3_at n_t_cells f_t_cells_L2 (x3_2 + 1)) _ f_t_cells_18 e18) (cwV 2 hts gX3_closeAt_X3_put rfl rfl rfl hdX3_put ⟨Nat.le_of_ble_eq_true rfl, Nat.le_of_ble_eq_true rfl⟩) hP hD hS hA hK [0, 1] [] rfl rfl rfl rfl (by decide) rfl rfl rfl hl.1 rfl (Nat.le_of_ble_eq_true rfl) dX3_closeAt_18 ⟨Nat.zero_le _, Nat.zero_le _⟩ (fun H locs hP hD hS => ?_)
      have hP : va_P (dC, dI) vwCl [(a_t, .inr (2, [.ref a_t_cells])), (a_t_cells, .inl (cA, n_t_cells, .inl f_t_cells_18))] H := hP
      have hD : va_D A [(a_t, .inr (2, [.ref a_t_cells])), (a_t_cells, .inl (cA, n_t_cells, .inl f_t_cells_18))] := hD
      refine lv_iinc (v := (x3_2 + 1)) (lv' := [(3, .int (x3_2 + 1)), (0, .ref a_t), (2, .int x2_2)]) hx hb dX3_closeAt_21 hl (k := 2) rfl rfl (by decide) rfl (fun ls hl => ?_)
      refine lv_goto (tgt := 2) hx hb dX3_closeAt_24 (by decide) ?_
      exact ih _ _ hm _ _ (hP.sub [0, 1] rfl) (hD.sub [0, 1] (by decide) rfl) hS _ (lv_sub hl [1, 2, 0] rfl)
set_option maxHeartbeats 4000000 in
set_option maxRecDepth 100000 in
theorem kX3_closeAt (l : Launch) (dC : Nat → ClassId) (dI : Nat → Nat → Nat) (cA : ClassId) (a_t a_t_cells n_t_cells : Nat) (hn_t_cells : n_t_cells < 2 ^ 31) (f_t_cells : Nat → Int32) (p1 p2 : Int32) (sz : Nat) (o_f_t_cells : Nat → Int32) (hm : (mX3_closeAt n_t_cells f_t_cells p1 p2) = some o_f_t_cells) : Met l yX3_closeAt wsX3_closeAt rmX3_closeAt (mpc (dC, dI) [(cA, .int)] (wX3_closeAt cA a_t a_t_cells n_t_cells f_t_cells) [.ref a_t, .int p1, .int p2] sz) (mqv (dC, dI) [(cA, .int)] (va_A (wX3_closeAt cA a_t a_t_cells n_t_cells f_t_cells) sz) (wX3_closeAt cA a_t a_t_cells n_t_cells o_f_t_cells)) 0 0 (va_A (wX3_closeAt cA a_t a_t_cells n_t_cells f_t_cells) sz) := by
  unfold mX3_closeAt at hm
  refine mu_ofW (Qc := fun A => mqv (dC, dI) [(cA, .int)] A (wX3_closeAt cA a_t a_t_cells n_t_cells o_f_t_cells)) (cc := cX3_closeAt) (maxL := 4) (ret := none) (own := RX3) (by decide) rfl rfl (Nat.le_of_ble_eq_true rfl) ?_
  intro p e s m args below meth c hx hb hr hts hown hlocks hml hin A hA hP hD hS hK ls hl
  have hl : lv_has ls 4 [(0, .ref a_t), (1, .int p1), (2, .int p2)] := hl
  have hP : va_P (dC, dI) vwCl [(a_t, .inr (2, [.ref a_t_cells])), (a_t_cells, .inl (cA, n_t_cells, .inl f_t_cells))] s.heap := hP
  have hD : va_D A [(a_t, .inr (2, [.ref a_t_cells])), (a_t_cells, .inl (cA, n_t_cells, .inl f_t_cells))] := hD
  refine lv_iload_n hx hb dX3_closeAt_0 rfl (lv_at hl 1 rfl) ?_
  refine lv_istore_n (lv' := [(3, .int p1), (0, .ref a_t), (1, .int p1), (2, .int p2)]) hx hb dX3_closeAt_1 rfl hl (by decide) rfl (fun ls hl => ?_)
  obtain ⟨⟨y3_2, f_t_cells_E2⟩, e2, hm⟩ := bs hm
  try dsimp only at hm
  refine wX3_closeAt_L2 dC dI cA a_t a_t_cells n_t_cells hn_t_cells p1 p2 p2 y3_2 f_t_cells_E2 hx hb hml hown hts hA hK ?_ FU _ _ e2 _ _ (hP.sub [0, 1] rfl) (hD.sub [0, 1] (by decide) rfl) hS _ (lv_sub hl [1, 3, 0] rfl)
  · intro H locs hP hD hS ls hl
    cases hm
    exact mu_vret hx hb hr hP hD hS hK [0, 1] rfl (by decide) dX3_closeAt_27 hlocks
def mX3_copyFrom_L2 (x2_2 : Int32) (n_t_cells : Nat) (n_p1_cells : Nat) (f_p1_cells : Nat → Int32) : Nat → (Int32) → (Nat → Int32) → Option (Int32 × (Nat → Int32))
  | 0, _, _ => none
  | n + 1, x3_2, f_t_cells_L2 =>
    (if x2_2 ≤ x3_2 then
      some (x3_2, f_t_cells_L2)
    else
      ((mX3_put n_t_cells f_t_cells_L2 x3_2 (mX3_at n_p1_cells f_p1_cells x3_2)).bind fun f_t_cells_14 =>
      mX3_copyFrom_L2 x2_2 n_t_cells n_p1_cells f_p1_cells n (x3_2 + 1) f_t_cells_14))
def mX3_copyFrom (n_t_cells : Nat) (n_p1_cells : Nat) (f_t_cells : Nat → Int32) (f_p1_cells : Nat → Int32) (p2 : Int32) : Option ((Nat → Int32)) :=
  ((mX3_copyFrom_L2 p2 n_t_cells n_p1_cells f_p1_cells FU 0 f_t_cells).bind fun (y3_2, f_t_cells_E2) =>
  some f_t_cells_E2)
abbrev rmX3_copyFrom : Room := { frames := 1, cells := 0, slots := 0, locals := 22 }
abbrev wX3_copyFrom (cA : ClassId) (a_t a_t_cells a_p1 a_p1_cells n_t_cells n_p1_cells : Nat) (f_t_cells f_p1_cells : Nat → Int32) : va_W := [(a_t, .inr (2, [.ref a_t_cells])), (a_t_cells, .inl (cA, n_t_cells, .inl f_t_cells)), (a_p1, .inr (2, [.ref a_p1_cells])), (a_p1_cells, .inl (cA, n_p1_cells, .inl f_p1_cells))]
theorem hdX3_copyFrom : yX3_copyFrom.cls = RX3 ∧ yX3_copyFrom.cls ≠ "java/lang/invoke/MethodHandle" ∧ yX3_copyFrom.cls ≠ "java/lang/invoke/VarHandle" ∧ (parseMethodDescriptor yX3_copyFrom.desc).map (fun d => d.parameters.length) = some 2 := by decide +kernel
set_option maxHeartbeats 4000000 in
set_option maxRecDepth 100000 in
theorem wX3_copyFrom_L2 {p : Program} {l : Launch} {e : Env} {s : State} {m : MethodId} {args : Array Value} {below : List Frame} {meth : Method} {c : Code} {Q : State → Prop} {A : Nat → Prop} (dC : Nat → ClassId) (dI : Nat → Nat → Nat) (cA : ClassId) (a_t a_t_cells a_p1 a_p1_cells n_t_cells n_p1_cells : Nat) (hn_t_cells : n_t_cells < 2 ^ 31) (hn_p1_cells : n_p1_cells < 2 ^ 31) (f_p1_cells : Nat → Int32) (p2 x2_2 y3_2 : Int32) (f_t_cells_E2 : Nat → Int32) (hx : p.tables.exec = Jvm.exec) (hb : c.code = cX3_copyFrom) (hml : c.maxLocals = 4) (hown : s.vm.findClass RX3 = some m.cls) (hts : ∀ w ∈ wsX3_copyFrom, w.before args s = true) (hA : ∀ q, s.heap.size ≤ q → A q) (hK : va_K (dC, dI) vwCl [(cA, .int)] s)
    (kk0 : ∀ (H : Heap) (locs : List Loc), va_P (dC, dI) vwCl [(a_t, .inr (2, [.ref a_t_cells])), (a_t_cells, .inl (cA, n_t_cells, .inl f_t_cells_E2)), (a_p1, .inr (2, [.ref a_p1_cells])), (a_p1_cells, .inl (cA, n_p1_cells, .inl f_p1_cells))] H → va_D A [(a_t, .inr (2, [.ref a_t_cells])), (a_t_cells, .inl (cA, n_t_cells, .inl f_t_cells_E2)), (a_p1, .inr (2, [.ref a_p1_cells])), (a_p1_cells, .inl (cA, n_p1_cells, .inl f_p1_cells))] → va_S A s.heap H locs → ∀ ls : Array Slot, lv_has ls 4 [(0, .ref a_t), (1, .ref a_p1), (2, .int x2_2), (3, .int y3_2)] → W p l e (headSpec wsX3_copyFrom rmX3_copyFrom).room s m args below meth c H locs 0 0 Q (F0 m 23 ls [])) :
    ∀ (n : Nat) (x3_2 : Int32) (f_t_cells_L2 : Nat → Int32), mX3_copyFrom_L2 x2_2 n_t_cells n_p1_cells f_p1_cells n x3_2 f_t_cells_L2 = some (y3_2, f_t_cells_E2) → ∀ (H : Heap) (locs : List Loc), va_P (dC, dI) vwCl [(a_t, .inr (2, [.ref a_t_cells])), (a_t_cells, .inl (cA, n_t_cells, .inl f_t_cells_L2)), (a_p1, .inr (2, [.ref a_p1_cells])), (a_p1_cells, .inl (cA, n_p1_cells, .inl f_p1_cells))] H → va_D A [(a_t, .inr (2, [.ref a_t_cells])), (a_t_cells, .inl (cA, n_t_cells, .inl f_t_cells_L2)), (a_p1, .inr (2, [.ref a_p1_cells])), (a_p1_cells, .inl (cA, n_p1_cells, .inl f_p1_cells))] → va_S A s.heap H locs → ∀ ls : Array Slot, lv_has ls 4 [(0, .ref a_t), (1, .ref a_p1), (2, .int x2_2), (3, .int x3_2)] → W p l e (headSpec wsX3_copyFrom rmX3_copyFrom).room s m args below meth c H locs 0 0 Q (F0 m 2 ls []) := by
  intro n
  induction n with
  | zero =>
    intro x3_2 f_t_cells_L2 hm
    cases hm
  | succ n ih =>
    intro x3_2 f_t_cells_L2 hm H locs hP hD hS ls hl
    rw [mX3_copyFrom_L2] at hm
    refine lv_iload_n hx hb dX3_copyFrom_2 rfl (lv_at hl 3 rfl) ?_
    refine lv_iload_n hx hb dX3_copyFrom_3 rfl (lv_at hl 2 rfl) ?_
    refine lv_icmp_ge (tgt := 23) hx hb dX3_copyFrom_4 (by decide) (fun c4 => ?_) (fun c4 => ?_)
    · rw [if_pos c4] at hm
      cases hm
      exact kk0 _ _ (hP.sub [0, 1, 2, 3] rfl) (hD.sub [0, 1, 2, 3] (by decide) rfl) hS _ (lv_sub hl [0, 1, 2, 3] rfl)
    · rw [if_neg c4] at hm
      refine lv_aload_n hx hb dX3_copyFrom_7 rfl (lv_at hl 0 rfl) ?_
      refine lv_iload_n hx hb dX3_copyFrom_8 rfl (lv_at hl 3 rfl) ?_
      refine lv_aload_n hx hb dX3_copyFrom_9 rfl (lv_at hl 1 rfl) ?_
      refine lv_iload_n hx hb dX3_copyFrom_10 rfl (lv_at hl 3 rfl) ?_
      refine ro_callVe ⟨hx, hb, hml, hown, hts⟩ (kX3_at l dC dI cA a_p1 a_p1_cells n_p1_cells hn_p1_cells f_p1_cells x3_2) (cwV 1 hts gX3_copyFrom_X3_at rfl rfl rfl hdX3_at ⟨Nat.le_of_ble_eq_true rfl, Nat.le_of_ble_eq_true rfl⟩) (hP.sub [2, 3] rfl) hK rfl rfl rfl hl.1 rfl (Nat.le_of_ble_eq_true rfl) dX3_copyFrom_11 ⟨Nat.zero_le _, Nat.zero_le _⟩ ?_
      obtain ⟨f_t_cells_14, e14, hm⟩ := bs hm
      try dsimp only at hm
      refine mu_callVv (wr := [(a_p1, .inr (2, [.ref a_p1_cells])), (a_p1_cells, .inl (cA, n_p1_cells, .inl f_p1_cells))]) ⟨hx, hb, hml, hown, hts⟩ (kX3_put l dC dI cA a_t a_t_cells n_t_cells hn_t_cells f_t_cells_L2 x3_2 (mX3_at n_p1_cells f_p1_cells x3_2) _ f_t_cells_14 e14) (cwV 2 hts gX3_copyFrom_X3_put rfl rfl rfl hdX3_put ⟨Nat.le_of_ble_eq_true rfl, Nat.le_of_ble_eq_true rfl⟩) hP hD hS hA hK [0, 1] [2, 3] rfl rfl rfl rfl (by decide) rfl rfl rfl hl.1 rfl (Nat.le_of_ble_eq_true rfl) dX3_copyFrom_14 ⟨Nat.zero_le _, Nat.zero_le _⟩ (fun H locs hP hD hS => ?_)
      have hP : va_P (dC, dI) vwCl [(a_p1, .inr (2, [.ref a_p1_cells])), (a_p1_cells, .inl (cA, n_p1_cells, .inl f_p1_cells)), (a_t, .inr (2, [.ref a_t_cells])), (a_t_cells, .inl (cA, n_t_cells, .inl f_t_cells_14))] H := hP
      have hD : va_D A [(a_p1, .inr (2, [.ref a_p1_cells])), (a_p1_cells, .inl (cA, n_p1_cells, .inl f_p1_cells)), (a_t, .inr (2, [.ref a_t_cells])), (a_t_cells, .inl (cA, n_t_cells, .inl f_t_cells_14))] := hD
      refine lv_iinc (v := (x3_2 + 1)) (lv' := [(3, .int (x3_2 + 1)), (0, .ref a_t), (1, .ref a_p1), (2, .int x2_2)]) hx hb dX3_copyFrom_17 hl (k := 3) rfl rfl (by decide) rfl (fun ls hl => ?_)
      refine lv_goto (tgt := 2) hx hb dX3_copyFrom_20 (by decide) ?_
      exact ih _ _ hm _ _ (hP.sub [2, 3, 0, 1] rfl) (hD.sub [2, 3, 0, 1] (by decide) rfl) hS _ (lv_sub hl [1, 2, 3, 0] rfl)
set_option maxHeartbeats 4000000 in
set_option maxRecDepth 100000 in
theorem kX3_copyFrom (l : Launch) (dC : Nat → ClassId) (dI : Nat → Nat → Nat) (cA : ClassId) (a_t a_t_cells a_p1 a_p1_cells n_t_cells n_p1_cells : Nat) (hn_t_cells : n_t_cells < 2 ^ 31) (hn_p1_cells : n_p1_cells < 2 ^ 31) (f_t_cells f_p1_cells : Nat → Int32) (p2 : Int32) (sz : Nat) (o_f_t_cells : Nat → Int32) (hm : (mX3_copyFrom n_t_cells n_p1_cells f_t_cells f_p1_cells p2) = some o_f_t_cells) : Met l yX3_copyFrom wsX3_copyFrom rmX3_copyFrom (mpc (dC, dI) [(cA, .int)] (wX3_copyFrom cA a_t a_t_cells a_p1 a_p1_cells n_t_cells n_p1_cells f_t_cells f_p1_cells) [.ref a_t, .ref a_p1, .int p2] sz) (mqv (dC, dI) [(cA, .int)] (va_A (wX3_copyFrom cA a_t a_t_cells a_p1 a_p1_cells n_t_cells n_p1_cells f_t_cells f_p1_cells) sz) (wX3_copyFrom cA a_t a_t_cells a_p1 a_p1_cells n_t_cells n_p1_cells o_f_t_cells f_p1_cells)) 0 0 (va_A (wX3_copyFrom cA a_t a_t_cells a_p1 a_p1_cells n_t_cells n_p1_cells f_t_cells f_p1_cells) sz) := by
  unfold mX3_copyFrom at hm
  refine mu_ofW (Qc := fun A => mqv (dC, dI) [(cA, .int)] A (wX3_copyFrom cA a_t a_t_cells a_p1 a_p1_cells n_t_cells n_p1_cells o_f_t_cells f_p1_cells)) (cc := cX3_copyFrom) (maxL := 4) (ret := none) (own := RX3) (by decide) rfl rfl (Nat.le_of_ble_eq_true rfl) ?_
  intro p e s m args below meth c hx hb hr hts hown hlocks hml hin A hA hP hD hS hK ls hl
  have hl : lv_has ls 4 [(0, .ref a_t), (1, .ref a_p1), (2, .int p2)] := hl
  have hP : va_P (dC, dI) vwCl [(a_t, .inr (2, [.ref a_t_cells])), (a_t_cells, .inl (cA, n_t_cells, .inl f_t_cells)), (a_p1, .inr (2, [.ref a_p1_cells])), (a_p1_cells, .inl (cA, n_p1_cells, .inl f_p1_cells))] s.heap := hP
  have hD : va_D A [(a_t, .inr (2, [.ref a_t_cells])), (a_t_cells, .inl (cA, n_t_cells, .inl f_t_cells)), (a_p1, .inr (2, [.ref a_p1_cells])), (a_p1_cells, .inl (cA, n_p1_cells, .inl f_p1_cells))] := hD
  refine lv_iconst (v := 0) hx hb dX3_copyFrom_0 (by decide) ?_
  refine lv_istore_n (lv' := [(3, .int 0), (0, .ref a_t), (1, .ref a_p1), (2, .int p2)]) hx hb dX3_copyFrom_1 rfl hl (by decide) rfl (fun ls hl => ?_)
  obtain ⟨⟨y3_2, f_t_cells_E2⟩, e2, hm⟩ := bs hm
  try dsimp only at hm
  refine wX3_copyFrom_L2 dC dI cA a_t a_t_cells a_p1 a_p1_cells n_t_cells n_p1_cells hn_t_cells hn_p1_cells f_p1_cells p2 p2 y3_2 f_t_cells_E2 hx hb hml hown hts hA hK ?_ FU _ _ e2 _ _ (hP.sub [0, 1, 2, 3] rfl) (hD.sub [0, 1, 2, 3] (by decide) rfl) hS _ (lv_sub hl [1, 2, 3, 0] rfl)
  · intro H locs hP hD hS ls hl
    cases hm
    exact mu_vret hx hb hr hP hD hS hK [0, 1, 2, 3] rfl (by decide) dX3_copyFrom_23 hlocks
