def mL_low (p0 : Int32) (p1 : Int32) : Option (Int32) :=
  ((remO (p0 &&& 2147483647) p1).bind fun r5 =>
  some r5)
abbrev rmL_low : Room := { frames := 0, cells := 0, slots := 0, locals := 0 }
theorem hdL_low : yL_low.cls = RL ∧ yL_low.cls ≠ "java/lang/invoke/MethodHandle" ∧ yL_low.cls ≠ "java/lang/invoke/VarHandle" ∧ (parseMethodDescriptor yL_low.desc).map (fun d => d.parameters.length) = some 2 := by decide +kernel
set_option maxHeartbeats 4000000 in
set_option maxRecDepth 100000 in
theorem kL_low (l : Launch) (p0 p1 r : Int32) (hm : (mL_low p0 p1) = some r) : Met l yL_low wsL_low rmL_low (spc [.int p0, .int p1]) (vp_Si (fun x => x = r)) 0 0 (fun _ => False) := by
  unfold mL_low at hm
  refine sp_ofW (cc := cL_low) (maxL := 2) (ret := (some .int)) (own := RL) (by decide) rfl rfl (Nat.le_of_ble_eq_true rfl) ?_
  intro p e s m args below meth c hx hb hr hts hown hlocks hml ls hl
  have hl : lv_has ls 2 [(0, .int p0), (1, .int p1)] := hl
  refine lv_iload_n hx hb dL_low_0 rfl (lv_at hl 0 rfl) ?_
  refine lv_ldc (v := 2147483647) hx hb hown (hts _ (List.mem_of_getElem? (i := 1) rfl)) dL_low_1 ?_
  refine lv_iand hx hb dL_low_3 ?_
  refine lv_iload_n hx hb dL_low_4 rfl (lv_at hl 1 rfl) ?_
  obtain ⟨r5, e5, hm⟩ := bs hm
  try dsimp only at hm
  refine xa_rem hx hb e5 dL_low_5 ?_
  cases hm
  exact ro_iret hx hb hr rfl rfl dL_low_6 hlocks
def mL_length (p0 : Int32) : Int32 :=
  (if p0 = 0 then 0 else (if 3 ≤ p0 then (if 7 ≤ p0 then (3 : Int32) else 2) else 1))
abbrev rmL_length : Room := { frames := 0, cells := 0, slots := 0, locals := 0 }
theorem hdL_length : yL_length.cls = RL ∧ yL_length.cls ≠ "java/lang/invoke/MethodHandle" ∧ yL_length.cls ≠ "java/lang/invoke/VarHandle" ∧ (parseMethodDescriptor yL_length.desc).map (fun d => d.parameters.length) = some 1 := by decide +kernel
set_option maxHeartbeats 4000000 in
set_option maxRecDepth 100000 in
theorem kL_length (l : Launch) (p0 : Int32) : Met l yL_length wsL_length rmL_length (spc [.int p0]) (vp_Si (fun x => x = (mL_length p0))) 0 0 (fun _ => False) := by
  obtain ⟨r, hm⟩ : ∃ r, mL_length p0 = r := ⟨_, rfl⟩
  rw [hm]
  unfold mL_length at hm
  refine sp_ofW (cc := cL_length) (maxL := 1) (ret := (some .int)) (own := RL) (by decide) rfl rfl (Nat.le_of_ble_eq_true rfl) ?_
  intro p e s m args below meth c hx hb hr hts hown hlocks hml ls hl
  have hl : lv_has ls 1 [(0, .int p0)] := hl
  refine lv_iload_n hx hb dL_length_0 rfl (lv_at hl 0 rfl) ?_
  refine lv_if_ne (tgt := 8) hx hb dL_length_1 (by decide) (fun c1 => ?_) (fun c1 => ?_)
  · try simp only [if_neg c1] at hm
    refine lv_iload_n hx hb dL_length_8 rfl (lv_at hl 0 rfl) ?_
    refine lv_iconst (v := 3) hx hb dL_length_9 (by decide) ?_
    refine lv_icmp_ge (tgt := 17) hx hb dL_length_10 (by decide) (fun c10 => ?_) (fun c10 => ?_)
    · try simp only [if_pos c10] at hm
      refine lv_iload_n hx hb dL_length_17 rfl (lv_at hl 0 rfl) ?_
      refine lv_bipush (v := 7) hx hb dL_length_18 (by decide) ?_
      refine lv_icmp_ge (tgt := 27) hx hb dL_length_20 (by decide) (fun c20 => ?_) (fun c20 => ?_)
      · try simp only [if_pos c20] at hm
        refine lv_iconst (v := 3) hx hb dL_length_27 (by decide) ?_
        subst hm
        exact ro_iret hx hb hr rfl rfl dL_length_28 hlocks
      · try simp only [if_neg c20] at hm
        refine lv_iconst (v := 2) hx hb dL_length_23 (by decide) ?_
        refine lv_goto (tgt := 28) hx hb dL_length_24 (by decide) ?_
        subst hm
        exact ro_iret hx hb hr rfl rfl dL_length_28 hlocks
    · try simp only [if_neg c10] at hm
      refine lv_iconst (v := 1) hx hb dL_length_13 (by decide) ?_
      refine lv_goto (tgt := 28) hx hb dL_length_14 (by decide) ?_
      subst hm
      exact ro_iret hx hb hr rfl rfl dL_length_28 hlocks
  · try simp only [if_pos c1] at hm
    refine lv_iconst (v := 0) hx hb dL_length_4 (by decide) ?_
    refine lv_goto (tgt := 28) hx hb dL_length_5 (by decide) ?_
    subst hm
    exact ro_iret hx hb hr rfl rfl dL_length_28 hlocks
def mL_letters_L6  : Nat → (Int32) → (Int32) → (Int32) → Option (Int32 × Int32 × Int32)
  | 0, _, _, _ => none
  | n + 1, x1_6, x2_6, x3_6 =>
    (if x3_6 ≤ 0 then
      some (x1_6, x2_6, x3_6)
    else
      mL_letters_L6 n (x1_6 + (x2_6 * ((x3_6 + 1) - (x3_6 + 1) / 2 * 2))) (x2_6 * 8) ((x3_6 - 1) / 2))
def mL_letters (p0 : Int32) : Option (Int32) :=
  ((mL_letters_L6 FU 0 1 p0).bind fun (y1_6, y2_6, y3_6) =>
  some y1_6)
abbrev rmL_letters : Room := { frames := 0, cells := 0, slots := 0, locals := 0 }
theorem hdL_letters : yL_letters.cls = RL ∧ yL_letters.cls ≠ "java/lang/invoke/MethodHandle" ∧ yL_letters.cls ≠ "java/lang/invoke/VarHandle" ∧ (parseMethodDescriptor yL_letters.desc).map (fun d => d.parameters.length) = some 1 := by decide +kernel
set_option maxHeartbeats 4000000 in
set_option maxRecDepth 100000 in
theorem wL_letters_L6 {p : Program} {l : Launch} {e : Env} {s : State} {m : MethodId} {args : Array Value} {below : List Frame} {meth : Method} {c : Code} {Q : State → Prop} {H : Heap} (p0 y1_6 y2_6 y3_6 : Int32) (hx : p.tables.exec = Jvm.exec) (hb : c.code = cL_letters) (hml : c.maxLocals = 4) (hown : s.vm.findClass RL = some m.cls) (hts : ∀ w ∈ wsL_letters, w.before args s = true)
    (kk0 : ∀ ls : Array Slot, lv_has ls 4 [(1, .int y1_6), (2, .int y2_6), (3, .int y3_6)] → W p l e (headSpec wsL_letters rmL_letters).room s m args below meth c H [] 0 0 Q (F0 m 34 ls [])) :
    ∀ (n : Nat) (x1_6 x2_6 x3_6 : Int32), mL_letters_L6  n x1_6 x2_6 x3_6 = some (y1_6, y2_6, y3_6) → ∀ ls : Array Slot, lv_has ls 4 [(1, .int x1_6), (2, .int x2_6), (3, .int x3_6)] → W p l e (headSpec wsL_letters rmL_letters).room s m args below meth c H [] 0 0 Q (F0 m 6 ls []) := by
  intro n
  induction n with
  | zero =>
    intro x1_6 x2_6 x3_6 hm
    cases hm
  | succ n ih =>
    intro x1_6 x2_6 x3_6 hm ls hl
    rw [mL_letters_L6] at hm
    refine lv_iload_n hx hb dL_letters_6 rfl (lv_at hl 2 rfl) ?_
    refine lv_if_le (tgt := 34) hx hb dL_letters_7 (by decide) (fun c7 => ?_) (fun c7 => ?_)
    · rw [if_pos c7] at hm
      cases hm
      exact kk0 _ (lv_sub hl [0, 1, 2] rfl)
    · rw [if_neg c7] at hm
      refine lv_iload_n hx hb dL_letters_10 rfl (lv_at hl 0 rfl) ?_
      refine lv_iload_n hx hb dL_letters_11 rfl (lv_at hl 1 rfl) ?_
      refine lv_iload_n hx hb dL_letters_12 rfl (lv_at hl 2 rfl) ?_
      refine lv_iconst (v := 1) hx hb dL_letters_13 (by decide) ?_
      refine lv_iadd hx hb dL_letters_14 ?_
      refine lv_iconst (v := 2) hx hb dL_letters_15 (by decide) ?_
      refine lv_irem hx hb dL_letters_16 (by decide) ?_
      refine lv_imul hx hb dL_letters_17 ?_
      refine lv_iadd hx hb dL_letters_18 ?_
      refine lv_istore_n (lv' := [(1, .int (x1_6 + (x2_6 * ((x3_6 + 1) - (x3_6 + 1) / 2 * 2)))), (2, .int x2_6), (3, .int x3_6)]) hx hb dL_letters_19 rfl hl (by decide) rfl (fun ls hl => ?_)
      refine lv_iload_n hx hb dL_letters_20 rfl (lv_at hl 1 rfl) ?_
      refine lv_bipush (v := 8) hx hb dL_letters_21 (by decide) ?_
      refine lv_imul hx hb dL_letters_23 ?_
      refine lv_istore_n (lv' := [(2, .int (x2_6 * 8)), (1, .int (x1_6 + (x2_6 * ((x3_6 + 1) - (x3_6 + 1) / 2 * 2)))), (3, .int x3_6)]) hx hb dL_letters_24 rfl hl (by decide) rfl (fun ls hl => ?_)
      refine lv_iload_n hx hb dL_letters_25 rfl (lv_at hl 2 rfl) ?_
      refine lv_iconst (v := 1) hx hb dL_letters_26 (by decide) ?_
      refine lv_isub hx hb dL_letters_27 ?_
      refine lv_iconst (v := 2) hx hb dL_letters_28 (by decide) ?_
      refine lv_idiv hx hb dL_letters_29 (by decide) ?_
      refine lv_istore_n (lv' := [(3, .int ((x3_6 - 1) / 2)), (2, .int (x2_6 * 8)), (1, .int (x1_6 + (x2_6 * ((x3_6 + 1) - (x3_6 + 1) / 2 * 2))))]) hx hb dL_letters_30 rfl hl (by decide) rfl (fun ls hl => ?_)
      refine lv_goto (tgt := 6) hx hb dL_letters_31 (by decide) ?_
      exact ih _ _ _ hm _ (lv_sub hl [2, 1, 0] rfl)
set_option maxHeartbeats 4000000 in
set_option maxRecDepth 100000 in
theorem kL_letters (l : Launch) (p0 r : Int32) (hm : (mL_letters p0) = some r) : Met l yL_letters wsL_letters rmL_letters (spc [.int p0]) (vp_Si (fun x => x = r)) 0 0 (fun _ => False) := by
  unfold mL_letters at hm
  refine sp_ofW (cc := cL_letters) (maxL := 4) (ret := (some .int)) (own := RL) (by decide) rfl rfl (Nat.le_of_ble_eq_true rfl) ?_
  intro p e s m args below meth c hx hb hr hts hown hlocks hml ls hl
  have hl : lv_has ls 4 [(0, .int p0)] := hl
  refine lv_iconst (v := 0) hx hb dL_letters_0 (by decide) ?_
  refine lv_istore_n (lv' := [(1, .int 0), (0, .int p0)]) hx hb dL_letters_1 rfl hl (by decide) rfl (fun ls hl => ?_)
  refine lv_iconst (v := 1) hx hb dL_letters_2 (by decide) ?_
  refine lv_istore_n (lv' := [(2, .int 1), (1, .int 0), (0, .int p0)]) hx hb dL_letters_3 rfl hl (by decide) rfl (fun ls hl => ?_)
  refine lv_iload_n hx hb dL_letters_4 rfl (lv_at hl 2 rfl) ?_
  refine lv_istore_n (lv' := [(3, .int p0), (2, .int 1), (1, .int 0), (0, .int p0)]) hx hb dL_letters_5 rfl hl (by decide) rfl (fun ls hl => ?_)
  obtain ⟨⟨y1_6, y2_6, y3_6⟩, e6, hm⟩ := bs hm
  try dsimp only at hm
  refine wL_letters_L6 p0  y1_6 y2_6 y3_6 hx hb hml hown hts ?_ FU _ _ _ e6 _ (lv_sub hl [2, 1, 0] rfl)
  · intro ls hl
    refine lv_iload_n hx hb dL_letters_34 rfl (lv_at hl 0 rfl) ?_
    cases hm
    exact ro_iret hx hb hr rfl rfl dL_letters_35 hlocks
def mL_above_L2 (x0_2 : Int32) : Nat → (Int32) → Option (Int32)
  | 0, _ => none
  | n + 1, x2_2 =>
    (if x2_2 ≤ x0_2 then
      some x2_2
    else
      mL_above_L2 x0_2 n ((x2_2 - 1) / 2))
def mL_above (p0 : Int32) (p1 : Int32) : Option (Int32) :=
  ((mL_above_L2 p0 FU p1).bind fun y2_2 =>
  some (if y2_2 = p0 then (1 : Int32) else 0))
abbrev rmL_above : Room := { frames := 0, cells := 0, slots := 0, locals := 0 }
theorem hdL_above : yL_above.cls = RL ∧ yL_above.cls ≠ "java/lang/invoke/MethodHandle" ∧ yL_above.cls ≠ "java/lang/invoke/VarHandle" ∧ (parseMethodDescriptor yL_above.desc).map (fun d => d.parameters.length) = some 2 := by decide +kernel
set_option maxHeartbeats 4000000 in
set_option maxRecDepth 100000 in
theorem wL_above_L2 {p : Program} {l : Launch} {e : Env} {s : State} {m : MethodId} {args : Array Value} {below : List Frame} {meth : Method} {c : Code} {Q : State → Prop} {H : Heap} (p0 p1 x0_2 y2_2 : Int32) (hx : p.tables.exec = Jvm.exec) (hb : c.code = cL_above) (hml : c.maxLocals = 3) (hown : s.vm.findClass RL = some m.cls) (hts : ∀ w ∈ wsL_above, w.before args s = true)
    (kk0 : ∀ ls : Array Slot, lv_has ls 3 [(0, .int x0_2), (2, .int y2_2)] → W p l e (headSpec wsL_above rmL_above).room s m args below meth c H [] 0 0 Q (F0 m 16 ls [])) :
    ∀ (n : Nat) (x2_2 : Int32), mL_above_L2 x0_2 n x2_2 = some y2_2 → ∀ ls : Array Slot, lv_has ls 3 [(0, .int x0_2), (2, .int x2_2)] → W p l e (headSpec wsL_above rmL_above).room s m args below meth c H [] 0 0 Q (F0 m 2 ls []) := by
  intro n
  induction n with
  | zero =>
    intro x2_2 hm
    cases hm
  | succ n ih =>
    intro x2_2 hm ls hl
    rw [mL_above_L2] at hm
    refine lv_iload_n hx hb dL_above_2 rfl (lv_at hl 1 rfl) ?_
    refine lv_iload_n hx hb dL_above_3 rfl (lv_at hl 0 rfl) ?_
    refine lv_icmp_le (tgt := 16) hx hb dL_above_4 (by decide) (fun c4 => ?_) (fun c4 => ?_)
    · rw [if_pos c4] at hm
      cases hm
      exact kk0 _ (lv_sub hl [0, 1] rfl)
    · rw [if_neg c4] at hm
      refine lv_iload_n hx hb dL_above_7 rfl (lv_at hl 1 rfl) ?_
      refine lv_iconst (v := 1) hx hb dL_above_8 (by decide) ?_
      refine lv_isub hx hb dL_above_9 ?_
      refine lv_iconst (v := 2) hx hb dL_above_10 (by decide) ?_
      refine lv_idiv hx hb dL_above_11 (by decide) ?_
      refine lv_istore_n (lv' := [(2, .int ((x2_2 - 1) / 2)), (0, .int x0_2)]) hx hb dL_above_12 rfl hl (by decide) rfl (fun ls hl => ?_)
      refine lv_goto (tgt := 2) hx hb dL_above_13 (by decide) ?_
      exact ih _ hm _ (lv_sub hl [1, 0] rfl)
set_option maxHeartbeats 4000000 in
set_option maxRecDepth 100000 in
theorem kL_above (l : Launch) (p0 p1 r : Int32) (hm : (mL_above p0 p1) = some r) : Met l yL_above wsL_above rmL_above (spc [.int p0, .int p1]) (vp_Si (fun x => x = r ∧ nbr r)) 0 0 (fun _ => False) := by
  unfold mL_above at hm
  refine sp_ofW (cc := cL_above) (maxL := 3) (ret := (some .boolean)) (own := RL) (by decide) rfl rfl (Nat.le_of_ble_eq_true rfl) ?_
  intro p e s m args below meth c hx hb hr hts hown hlocks hml ls hl
  have hl : lv_has ls 3 [(0, .int p0), (1, .int p1)] := hl
  refine lv_iload_n hx hb dL_above_0 rfl (lv_at hl 1 rfl) ?_
  refine lv_istore_n (lv' := [(2, .int p1), (0, .int p0), (1, .int p1)]) hx hb dL_above_1 rfl hl (by decide) rfl (fun ls hl => ?_)
  obtain ⟨y2_2, e2, hm⟩ := bs hm
  try dsimp only at hm
  refine wL_above_L2 p0 p1 p0 y2_2 hx hb hml hown hts ?_ FU _ e2 _ (lv_sub hl [1, 0] rfl)
  · intro ls hl
    refine lv_iload_n hx hb dL_above_16 rfl (lv_at hl 1 rfl) ?_
    refine lv_iload_n hx hb dL_above_17 rfl (lv_at hl 0 rfl) ?_
    refine lv_icmp_ne (tgt := 25) hx hb dL_above_18 (by decide) (fun c18 => ?_) (fun c18 => ?_)
    · try simp only [if_neg c18] at hm
      refine lv_iconst (v := 0) hx hb dL_above_25 (by decide) ?_
      cases hm
      exact ro_iret hx hb hr rfl ⟨rfl, rfl⟩ dL_above_26 hlocks
    · try simp only [if_pos c18] at hm
      refine lv_iconst (v := 1) hx hb dL_above_21 (by decide) ?_
      refine lv_goto (tgt := 26) hx hb dL_above_22 (by decide) ?_
      cases hm
      exact ro_iret hx hb hr rfl ⟨rfl, rfl⟩ dL_above_26 hlocks
def mL_inTown_L12 (f_na : Nat → Int32) (x0_12 : Int32) : Nat → (Int32) → (Int32) → Option (Int32 × Int32)
  | 0, _, _ => none
  | n + 1, x2_12, x3_12 =>
    (if 15 ≤ x3_12 then
      some (x2_12, x3_12)
    else
      (if x2_12 = 0 then
        ((rdA 15 f_na x3_12).bind fun r24 =>
        (if r24 = 1 then
          ((mL_above x0_12 x3_12).bind fun r31 =>
          mL_inTown_L12 f_na x0_12 n (if r31 = 0 then (0 : Int32) else 1) (x3_12 + 1))
        else
          mL_inTown_L12 f_na x0_12 n 0 (x3_12 + 1)))
      else
        mL_inTown_L12 f_na x0_12 n 1 (x3_12 + 1)))
def mL_inTown (f_na : Nat → Int32) (p0 : Int32) : Option (Int32) :=
  ((mL_inTown_L12 f_na p0 FU (if p0 = 0 then (1 : Int32) else 0) p0).bind fun (y2_12, y3_12) =>
  ((boO y2_12).bind fun r50 =>
  some r50))
abbrev rmL_inTown : Room := { frames := 1, cells := 0, slots := 0, locals := 22 }
abbrev wL_inTown (cA : ClassId) (a_na : Nat) (f_na : Nat → Int32) : va_W := [(a_na, .inl (cA, 15, .inl f_na))]
theorem hdL_inTown : yL_inTown.cls = RL ∧ yL_inTown.cls ≠ "java/lang/invoke/MethodHandle" ∧ yL_inTown.cls ≠ "java/lang/invoke/VarHandle" ∧ (parseMethodDescriptor yL_inTown.desc).map (fun d => d.parameters.length) = some 2 := by decide +kernel
set_option maxHeartbeats 4000000 in
set_option maxRecDepth 100000 in
theorem wL_inTown_L12 {p : Program} {l : Launch} {e : Env} {s : State} {m : MethodId} {args : Array Value} {below : List Frame} {meth : Method} {c : Code} {Q : State → Prop} {H : Heap} (dC : Nat → ClassId) (dI : Nat → Nat → Nat) (cA : ClassId) (a_na : Nat) (f_na : Nat → Int32) (p0 x0_12 y2_12 y3_12 : Int32) (hx : p.tables.exec = Jvm.exec) (hb : c.code = cL_inTown) (hml : c.maxLocals = 4) (hown : s.vm.findClass RL = some m.cls) (hts : ∀ w ∈ wsL_inTown, w.before args s = true) (hK : va_K (dC, dI) vwCl [(cA, .int)] s) (hP : va_P (dC, dI) vwCl [(a_na, .inl (cA, 15, .inl f_na))] H)
    (kk0 : ∀ ls : Array Slot, lv_has ls 4 [(0, .int x0_12), (1, .ref a_na), (2, .int y2_12), (3, .int y3_12)] → W p l e (headSpec wsL_inTown rmL_inTown).room s m args below meth c H [] 0 0 Q (F0 m 49 ls [])) :
    ∀ (n : Nat) (x2_12 x3_12 : Int32), mL_inTown_L12 f_na x0_12 n x2_12 x3_12 = some (y2_12, y3_12) → ∀ ls : Array Slot, lv_has ls 4 [(0, .int x0_12), (1, .ref a_na), (2, .int x2_12), (3, .int x3_12)] → W p l e (headSpec wsL_inTown rmL_inTown).room s m args below meth c H [] 0 0 Q (F0 m 12 ls []) := by
  intro n
  induction n with
  | zero =>
    intro x2_12 x3_12 hm
    cases hm
  | succ n ih =>
    intro x2_12 x3_12 hm ls hl
    rw [mL_inTown_L12] at hm
    refine lv_iload_n hx hb dL_inTown_12 rfl (lv_at hl 3 rfl) ?_
    refine lv_bipush (v := 15) hx hb dL_inTown_13 (by decide) ?_
    refine lv_icmp_ge (tgt := 49) hx hb dL_inTown_15 (by decide) (fun c15 => ?_) (fun c15 => ?_)
    · rw [if_pos c15] at hm
      cases hm
      exact kk0 _ (lv_sub hl [0, 1, 2, 3] rfl)
    · rw [if_neg c15] at hm
      refine lv_iload_n hx hb dL_inTown_18 rfl (lv_at hl 2 rfl) ?_
      refine lv_if_ne (tgt := 37) hx hb dL_inTown_19 (by decide) (fun c19 => ?_) (fun c19 => ?_)
      · rw [if_neg c19] at hm
        refine lv_iconst (v := 1) hx hb dL_inTown_37 (by decide) ?_
        refine lv_goto (tgt := 42) hx hb dL_inTown_38 (by decide) ?_
        refine lv_istore_n (lv' := [(2, .int 1), (0, .int x0_12), (1, .ref a_na), (3, .int x3_12)]) hx hb dL_inTown_42 rfl hl (by decide) rfl (fun ls hl => ?_)
        refine lv_iinc (v := (x3_12 + 1)) (lv' := [(3, .int (x3_12 + 1)), (2, .int 1), (0, .int x0_12), (1, .ref a_na)]) hx hb dL_inTown_43 hl (k := 3) rfl rfl (by decide) rfl (fun ls hl => ?_)
        refine lv_goto (tgt := 12) hx hb dL_inTown_46 (by decide) ?_
        exact ih _ _ hm _ (lv_sub hl [2, 3, 1, 0] rfl)
      · rw [if_pos c19] at hm
        refine lv_aload_n hx hb dL_inTown_22 rfl (lv_at hl 1 rfl) ?_
        refine lv_iload_n hx hb dL_inTown_23 rfl (lv_at hl 3 rfl) ?_
        obtain ⟨r24, e24, hm⟩ := bs hm
        try dsimp only at hm
        refine xa_ldO hx hb hK hP 0 0 rfl rfl e24 dL_inTown_24 ?_
        refine lv_iconst (v := 1) hx hb dL_inTown_25 (by decide) ?_
        refine lv_icmp_ne (tgt := 41) hx hb dL_inTown_26 (by decide) (fun c26 => ?_) (fun c26 => ?_)
        · rw [if_neg c26] at hm
          refine lv_iconst (v := 0) hx hb dL_inTown_41 (by decide) ?_
          refine lv_istore_n (lv' := [(2, .int 0), (0, .int x0_12), (1, .ref a_na), (3, .int x3_12)]) hx hb dL_inTown_42 rfl hl (by decide) rfl (fun ls hl => ?_)
          refine lv_iinc (v := (x3_12 + 1)) (lv' := [(3, .int (x3_12 + 1)), (2, .int 0), (0, .int x0_12), (1, .ref a_na)]) hx hb dL_inTown_43 hl (k := 3) rfl rfl (by decide) rfl (fun ls hl => ?_)
          refine lv_goto (tgt := 12) hx hb dL_inTown_46 (by decide) ?_
          exact ih _ _ hm _ (lv_sub hl [2, 3, 1, 0] rfl)
        · rw [if_pos c26] at hm
          refine lv_iload_n hx hb dL_inTown_29 rfl (lv_at hl 0 rfl) ?_
          refine lv_iload_n hx hb dL_inTown_30 rfl (lv_at hl 3 rfl) ?_
          obtain ⟨r31, e31, hm⟩ := bs hm
          try dsimp only at hm
          refine sp_callSz ⟨hx, hb, hml, hown, hts⟩ (kL_above l x0_12 x3_12 r31 e31) (va_cwS 2 hts gL_inTown_L_above rfl rfl rfl hdL_above.2 ⟨Nat.le_of_ble_eq_true rfl, Nat.le_of_ble_eq_true rfl⟩) rfl hl.1 rfl (Nat.le_of_ble_eq_true rfl) dL_inTown_31 ⟨Nat.zero_le _, Nat.zero_le _⟩ (fun hb31 => ?_)
          refine lv_if_eq (tgt := 41) hx hb dL_inTown_34 (by decide) (fun c34 => ?_) (fun c34 => ?_)
          · try simp only [if_pos c34] at hm
            refine lv_iconst (v := 0) hx hb dL_inTown_41 (by decide) ?_
            refine lv_istore_n (lv' := [(2, .int 0), (0, .int x0_12), (1, .ref a_na), (3, .int x3_12)]) hx hb dL_inTown_42 rfl hl (by decide) rfl (fun ls hl => ?_)
            refine lv_iinc (v := (x3_12 + 1)) (lv' := [(3, .int (x3_12 + 1)), (2, .int 0), (0, .int x0_12), (1, .ref a_na)]) hx hb dL_inTown_43 hl (k := 3) rfl rfl (by decide) rfl (fun ls hl => ?_)
            refine lv_goto (tgt := 12) hx hb dL_inTown_46 (by decide) ?_
            exact ih _ _ hm _ (lv_sub hl [2, 3, 1, 0] rfl)
          · try simp only [if_neg c34] at hm
            refine lv_iconst (v := 1) hx hb dL_inTown_37 (by decide) ?_
            refine lv_goto (tgt := 42) hx hb dL_inTown_38 (by decide) ?_
            refine lv_istore_n (lv' := [(2, .int 1), (0, .int x0_12), (1, .ref a_na), (3, .int x3_12)]) hx hb dL_inTown_42 rfl hl (by decide) rfl (fun ls hl => ?_)
            refine lv_iinc (v := (x3_12 + 1)) (lv' := [(3, .int (x3_12 + 1)), (2, .int 1), (0, .int x0_12), (1, .ref a_na)]) hx hb dL_inTown_43 hl (k := 3) rfl rfl (by decide) rfl (fun ls hl => ?_)
            refine lv_goto (tgt := 12) hx hb dL_inTown_46 (by decide) ?_
            exact ih _ _ hm _ (lv_sub hl [2, 3, 1, 0] rfl)
set_option maxHeartbeats 4000000 in
set_option maxRecDepth 100000 in
theorem kL_inTown (l : Launch) (dC : Nat → ClassId) (dI : Nat → Nat → Nat) (cA : ClassId) (a_na : Nat) (f_na : Nat → Int32) (p0 r : Int32) (hm : (mL_inTown f_na p0) = some r) : Met l yL_inTown wsL_inTown rmL_inTown (rpc (dC, dI) [(cA, .int)] (wL_inTown cA a_na f_na) [.int p0, .ref a_na]) (vp_Si (fun x => x = r ∧ nbr r)) 0 0 (fun _ => False) := by
  unfold mL_inTown at hm
  refine ro_ofW (cc := cL_inTown) (maxL := 4) (ret := (some .boolean)) (own := RL) (by decide) rfl rfl (Nat.le_of_ble_eq_true rfl) ?_
  intro p e s m args below meth c hx hb hr hts hown hlocks hml hP hK ls hl
  have hl : lv_has ls 4 [(0, .int p0), (1, .ref a_na)] := hl
  have hP : va_P (dC, dI) vwCl [(a_na, .inl (cA, 15, .inl f_na))] s.heap := hP
  refine lv_iload_n hx hb dL_inTown_0 rfl (lv_at hl 0 rfl) ?_
  refine lv_if_ne (tgt := 8) hx hb dL_inTown_1 (by decide) (fun c1 => ?_) (fun c1 => ?_)
  · try simp only [if_neg c1] at hm
    refine lv_iconst (v := 0) hx hb dL_inTown_8 (by decide) ?_
    refine lv_istore_n (lv' := [(2, .int 0), (0, .int p0), (1, .ref a_na)]) hx hb dL_inTown_9 rfl hl (by decide) rfl (fun ls hl => ?_)
    refine lv_iload_n hx hb dL_inTown_10 rfl (lv_at hl 1 rfl) ?_
    refine lv_istore_n (lv' := [(3, .int p0), (2, .int 0), (0, .int p0), (1, .ref a_na)]) hx hb dL_inTown_11 rfl hl (by decide) rfl (fun ls hl => ?_)
    obtain ⟨⟨y2_12, y3_12⟩, e12, hm⟩ := bs hm
    try dsimp only at hm
    refine wL_inTown_L12 dC dI cA a_na f_na p0 p0 y2_12 y3_12 hx hb hml hown hts hK (hP.sub [0] rfl) ?_ FU _ _ e12 _ (lv_sub hl [2, 3, 1, 0] rfl)
    · intro ls hl
      refine lv_iload_n hx hb dL_inTown_49 rfl (lv_at hl 2 rfl) ?_
      obtain ⟨r50, e50, h9⟩ := bs hm
      clear hm
      try dsimp only at h9
      obtain ⟨rfl, hz50⟩ := boO_some e50
      have hm := h9
      cases hm
      exact ro_iret hx hb hr hz50 ⟨rfl, hz50⟩ dL_inTown_50 hlocks
  · try simp only [if_pos c1] at hm
    refine lv_iconst (v := 1) hx hb dL_inTown_4 (by decide) ?_
    refine lv_goto (tgt := 9) hx hb dL_inTown_5 (by decide) ?_
    refine lv_istore_n (lv' := [(2, .int 1), (0, .int p0), (1, .ref a_na)]) hx hb dL_inTown_9 rfl hl (by decide) rfl (fun ls hl => ?_)
    refine lv_iload_n hx hb dL_inTown_10 rfl (lv_at hl 1 rfl) ?_
    refine lv_istore_n (lv' := [(3, .int p0), (2, .int 1), (0, .int p0), (1, .ref a_na)]) hx hb dL_inTown_11 rfl hl (by decide) rfl (fun ls hl => ?_)
    obtain ⟨⟨y2_12, y3_12⟩, e12, hm⟩ := bs hm
    try dsimp only at hm
    refine wL_inTown_L12 dC dI cA a_na f_na p0 p0 y2_12 y3_12 hx hb hml hown hts hK (hP.sub [0] rfl) ?_ FU _ _ e12 _ (lv_sub hl [2, 3, 1, 0] rfl)
    · intro ls hl
      refine lv_iload_n hx hb dL_inTown_49 rfl (lv_at hl 2 rfl) ?_
      obtain ⟨r50, e50, h9⟩ := bs hm
      clear hm
      try dsimp only at h9
      obtain ⟨rfl, hz50⟩ := boO_some e50
      have hm := h9
      cases hm
      exact ro_iret hx hb hr hz50 ⟨rfl, hz50⟩ dL_inTown_50 hlocks
def mL_before (p0 : Int32) (p1 : Int32) : Option (Int32) :=
  ((mL_letters p0).bind fun r1 =>
  ((mL_letters p1).bind fun r15 =>
  some (if (r1 <<< ((3 * (3 - (mL_length p0))) &&& 31)) = (r15 <<< ((3 * (3 - (mL_length p1))) &&& 31)) then (if (mL_length p1) ≤ (mL_length p0) then (0 : Int32) else 1) else (if (r15 <<< ((3 * (3 - (mL_length p1))) &&& 31)) ≤ (r1 <<< ((3 * (3 - (mL_length p0))) &&& 31)) then (0 : Int32) else 1))))
abbrev rmL_before : Room := { frames := 1, cells := 0, slots := 0, locals := 23 }
theorem hdL_before : yL_before.cls = RL ∧ yL_before.cls ≠ "java/lang/invoke/MethodHandle" ∧ yL_before.cls ≠ "java/lang/invoke/VarHandle" ∧ (parseMethodDescriptor yL_before.desc).map (fun d => d.parameters.length) = some 2 := by decide +kernel
set_option maxHeartbeats 4000000 in
set_option maxRecDepth 100000 in
theorem kL_before (l : Launch) (p0 p1 r : Int32) (hm : (mL_before p0 p1) = some r) : Met l yL_before wsL_before rmL_before (spc [.int p0, .int p1]) (vp_Si (fun x => x = r ∧ nbr r)) 0 0 (fun _ => False) := by
  unfold mL_before at hm
  refine sp_ofW (cc := cL_before) (maxL := 4) (ret := (some .boolean)) (own := RL) (by decide) rfl rfl (Nat.le_of_ble_eq_true rfl) ?_
  intro p e s m args below meth c hx hb hr hts hown hlocks hml ls hl
  have hl : lv_has ls 4 [(0, .int p0), (1, .int p1)] := hl
  refine lv_iload_n hx hb dL_before_0 rfl (lv_at hl 0 rfl) ?_
  obtain ⟨r1, e1, hm⟩ := bs hm
  try dsimp only at hm
  refine sp_callSe ⟨hx, hb, hml, hown, hts⟩ (kL_letters l p0 r1 e1) (va_cwS 1 hts gL_before_L_letters rfl rfl rfl hdL_letters.2 ⟨Nat.le_of_ble_eq_true rfl, Nat.le_of_ble_eq_true rfl⟩) rfl hl.1 rfl (Nat.le_of_ble_eq_true rfl) dL_before_1 ⟨Nat.zero_le _, Nat.zero_le _⟩ ?_
  refine lv_iconst (v := 3) hx hb dL_before_4 (by decide) ?_
  refine lv_iconst (v := 3) hx hb dL_before_5 (by decide) ?_
  refine lv_iload_n hx hb dL_before_6 rfl (lv_at hl 0 rfl) ?_
  refine sp_callSe ⟨hx, hb, hml, hown, hts⟩ (kL_length l p0) (va_cwS 1 hts gL_before_L_length rfl rfl rfl hdL_length.2 ⟨Nat.le_of_ble_eq_true rfl, Nat.le_of_ble_eq_true rfl⟩) rfl hl.1 rfl (Nat.le_of_ble_eq_true rfl) dL_before_7 ⟨Nat.zero_le _, Nat.zero_le _⟩ ?_
  refine lv_isub hx hb dL_before_10 ?_
  refine lv_imul hx hb dL_before_11 ?_
  refine lv_ishl hx hb dL_before_12 ?_
  refine lv_istore_n (lv' := [(2, .int (r1 <<< ((3 * (3 - (mL_length p0))) &&& 31))), (0, .int p0), (1, .int p1)]) hx hb dL_before_13 rfl hl (by decide) rfl (fun ls hl => ?_)
  refine lv_iload_n hx hb dL_before_14 rfl (lv_at hl 2 rfl) ?_
  obtain ⟨r15, e15, hm⟩ := bs hm
  try dsimp only at hm
  refine sp_callSe ⟨hx, hb, hml, hown, hts⟩ (kL_letters l p1 r15 e15) (va_cwS 1 hts gL_before_L_letters rfl rfl rfl hdL_letters.2 ⟨Nat.le_of_ble_eq_true rfl, Nat.le_of_ble_eq_true rfl⟩) rfl hl.1 rfl (Nat.le_of_ble_eq_true rfl) dL_before_15 ⟨Nat.zero_le _, Nat.zero_le _⟩ ?_
  refine lv_iconst (v := 3) hx hb dL_before_18 (by decide) ?_
  refine lv_iconst (v := 3) hx hb dL_before_19 (by decide) ?_
  refine lv_iload_n hx hb dL_before_20 rfl (lv_at hl 2 rfl) ?_
  refine sp_callSe ⟨hx, hb, hml, hown, hts⟩ (kL_length l p1) (va_cwS 1 hts gL_before_L_length rfl rfl rfl hdL_length.2 ⟨Nat.le_of_ble_eq_true rfl, Nat.le_of_ble_eq_true rfl⟩) rfl hl.1 rfl (Nat.le_of_ble_eq_true rfl) dL_before_21 ⟨Nat.zero_le _, Nat.zero_le _⟩ ?_
  refine lv_isub hx hb dL_before_24 ?_
  refine lv_imul hx hb dL_before_25 ?_
  refine lv_ishl hx hb dL_before_26 ?_
  refine lv_istore_n (lv' := [(3, .int (r15 <<< ((3 * (3 - (mL_length p1))) &&& 31))), (2, .int (r1 <<< ((3 * (3 - (mL_length p0))) &&& 31))), (0, .int p0), (1, .int p1)]) hx hb dL_before_27 rfl hl (by decide) rfl (fun ls hl => ?_)
  refine lv_iload_n hx hb dL_before_28 rfl (lv_at hl 1 rfl) ?_
  refine lv_iload_n hx hb dL_before_29 rfl (lv_at hl 0 rfl) ?_
  refine lv_icmp_eq (tgt := 46) hx hb dL_before_30 (by decide) (fun c30 => ?_) (fun c30 => ?_)
  · try simp only [if_pos c30] at hm
    refine lv_iload_n hx hb dL_before_46 rfl (lv_at hl 2 rfl) ?_
    refine sp_callSe ⟨hx, hb, hml, hown, hts⟩ (kL_length l p0) (va_cwS 1 hts gL_before_L_length rfl rfl rfl hdL_length.2 ⟨Nat.le_of_ble_eq_true rfl, Nat.le_of_ble_eq_true rfl⟩) rfl hl.1 rfl (Nat.le_of_ble_eq_true rfl) dL_before_47 ⟨Nat.zero_le _, Nat.zero_le _⟩ ?_
    refine lv_iload_n hx hb dL_before_50 rfl (lv_at hl 3 rfl) ?_
    refine sp_callSe ⟨hx, hb, hml, hown, hts⟩ (kL_length l p1) (va_cwS 1 hts gL_before_L_length rfl rfl rfl hdL_length.2 ⟨Nat.le_of_ble_eq_true rfl, Nat.le_of_ble_eq_true rfl⟩) rfl hl.1 rfl (Nat.le_of_ble_eq_true rfl) dL_before_51 ⟨Nat.zero_le _, Nat.zero_le _⟩ ?_
    refine lv_icmp_ge (tgt := 61) hx hb dL_before_54 (by decide) (fun c54 => ?_) (fun c54 => ?_)
    · try simp only [if_pos c54] at hm
      refine lv_iconst (v := 0) hx hb dL_before_61 (by decide) ?_
      cases hm
      exact ro_iret hx hb hr rfl ⟨rfl, rfl⟩ dL_before_62 hlocks
    · try simp only [if_neg c54] at hm
      refine lv_iconst (v := 1) hx hb dL_before_57 (by decide) ?_
      refine lv_goto (tgt := 62) hx hb dL_before_58 (by decide) ?_
      cases hm
      exact ro_iret hx hb hr rfl ⟨rfl, rfl⟩ dL_before_62 hlocks
  · try simp only [if_neg c30] at hm
    refine lv_iload_n hx hb dL_before_33 rfl (lv_at hl 1 rfl) ?_
    refine lv_iload_n hx hb dL_before_34 rfl (lv_at hl 0 rfl) ?_
    refine lv_icmp_ge (tgt := 42) hx hb dL_before_35 (by decide) (fun c35 => ?_) (fun c35 => ?_)
    · try simp only [if_pos c35] at hm
      refine lv_iconst (v := 0) hx hb dL_before_42 (by decide) ?_
      refine lv_goto (tgt := 62) hx hb dL_before_43 (by decide) ?_
      cases hm
      exact ro_iret hx hb hr rfl ⟨rfl, rfl⟩ dL_before_62 hlocks
    · try simp only [if_neg c35] at hm
      refine lv_iconst (v := 1) hx hb dL_before_38 (by decide) ?_
      refine lv_goto (tgt := 62) hx hb dL_before_39 (by decide) ?_
      cases hm
      exact ro_iret hx hb hr rfl ⟨rfl, rfl⟩ dL_before_62 hlocks
def mL_parent_L6 (f_ho : Nat → Int32) : Nat → (Int32) → Option (Int32)
  | 0, _ => none
  | n + 1, x2_6 =>
    ((rdA 15 f_ho x2_6).bind fun r8 =>
    (if r8 = 0 then
      mL_parent_L6 f_ho n ((x2_6 - 1) / 2)
    else
      some x2_6))
def mL_parent (f_ho : Nat → Int32) (p0 : Int32) : Option (Int32) :=
  ((mL_parent_L6 f_ho FU ((p0 - 1) / 2)).bind fun y2_6 =>
  some y2_6)
abbrev rmL_parent : Room := { frames := 0, cells := 0, slots := 0, locals := 0 }
abbrev wL_parent (cA : ClassId) (a_ho : Nat) (f_ho : Nat → Int32) : va_W := [(a_ho, .inl (cA, 15, .inl f_ho))]
theorem hdL_parent : yL_parent.cls = RL ∧ yL_parent.cls ≠ "java/lang/invoke/MethodHandle" ∧ yL_parent.cls ≠ "java/lang/invoke/VarHandle" ∧ (parseMethodDescriptor yL_parent.desc).map (fun d => d.parameters.length) = some 2 := by decide +kernel
set_option maxHeartbeats 4000000 in
set_option maxRecDepth 100000 in
theorem wL_parent_L6 {p : Program} {l : Launch} {e : Env} {s : State} {m : MethodId} {args : Array Value} {below : List Frame} {meth : Method} {c : Code} {Q : State → Prop} {H : Heap} (dC : Nat → ClassId) (dI : Nat → Nat → Nat) (cA : ClassId) (a_ho : Nat) (f_ho : Nat → Int32) (p0 y2_6 : Int32) (hx : p.tables.exec = Jvm.exec) (hb : c.code = cL_parent) (hml : c.maxLocals = 3) (hown : s.vm.findClass RL = some m.cls) (hts : ∀ w ∈ wsL_parent, w.before args s = true) (hK : va_K (dC, dI) vwCl [(cA, .int)] s) (hP : va_P (dC, dI) vwCl [(a_ho, .inl (cA, 15, .inl f_ho))] H)
    (kk0 : ∀ ls : Array Slot, lv_has ls 3 [(1, .ref a_ho), (2, .int y2_6)] → W p l e (headSpec wsL_parent rmL_parent).room s m args below meth c H [] 0 0 Q (F0 m 21 ls [])) :
    ∀ (n : Nat) (x2_6 : Int32), mL_parent_L6 f_ho n x2_6 = some y2_6 → ∀ ls : Array Slot, lv_has ls 3 [(1, .ref a_ho), (2, .int x2_6)] → W p l e (headSpec wsL_parent rmL_parent).room s m args below meth c H [] 0 0 Q (F0 m 6 ls []) := by
  intro n
  induction n with
  | zero =>
    intro x2_6 hm
    cases hm
  | succ n ih =>
    intro x2_6 hm ls hl
    rw [mL_parent_L6] at hm
    refine lv_aload_n hx hb dL_parent_6 rfl (lv_at hl 0 rfl) ?_
    refine lv_iload_n hx hb dL_parent_7 rfl (lv_at hl 1 rfl) ?_
    obtain ⟨r8, e8, hm⟩ := bs hm
    try dsimp only at hm
    refine xa_ldO hx hb hK hP 0 0 rfl rfl e8 dL_parent_8 ?_
    refine lv_if_ne (tgt := 21) hx hb dL_parent_9 (by decide) (fun c9 => ?_) (fun c9 => ?_)
    · rw [if_neg c9] at hm
      cases hm
      exact kk0 _ (lv_sub hl [0, 1] rfl)
    · rw [if_pos c9] at hm
      refine lv_iload_n hx hb dL_parent_12 rfl (lv_at hl 1 rfl) ?_
      refine lv_iconst (v := 1) hx hb dL_parent_13 (by decide) ?_
      refine lv_isub hx hb dL_parent_14 ?_
      refine lv_iconst (v := 2) hx hb dL_parent_15 (by decide) ?_
      refine lv_idiv hx hb dL_parent_16 (by decide) ?_
      refine lv_istore_n (lv' := [(2, .int ((x2_6 - 1) / 2)), (1, .ref a_ho)]) hx hb dL_parent_17 rfl hl (by decide) rfl (fun ls hl => ?_)
      refine lv_goto (tgt := 6) hx hb dL_parent_18 (by decide) ?_
      exact ih _ hm _ (lv_sub hl [1, 0] rfl)
set_option maxHeartbeats 4000000 in
set_option maxRecDepth 100000 in
theorem kL_parent (l : Launch) (dC : Nat → ClassId) (dI : Nat → Nat → Nat) (cA : ClassId) (a_ho : Nat) (f_ho : Nat → Int32) (p0 r : Int32) (hm : (mL_parent f_ho p0) = some r) : Met l yL_parent wsL_parent rmL_parent (rpc (dC, dI) [(cA, .int)] (wL_parent cA a_ho f_ho) [.int p0, .ref a_ho]) (vp_Si (fun x => x = r)) 0 0 (fun _ => False) := by
  unfold mL_parent at hm
  refine ro_ofW (cc := cL_parent) (maxL := 3) (ret := (some .int)) (own := RL) (by decide) rfl rfl (Nat.le_of_ble_eq_true rfl) ?_
  intro p e s m args below meth c hx hb hr hts hown hlocks hml hP hK ls hl
  have hl : lv_has ls 3 [(0, .int p0), (1, .ref a_ho)] := hl
  have hP : va_P (dC, dI) vwCl [(a_ho, .inl (cA, 15, .inl f_ho))] s.heap := hP
  refine lv_iload_n hx hb dL_parent_0 rfl (lv_at hl 0 rfl) ?_
  refine lv_iconst (v := 1) hx hb dL_parent_1 (by decide) ?_
  refine lv_isub hx hb dL_parent_2 ?_
  refine lv_iconst (v := 2) hx hb dL_parent_3 (by decide) ?_
  refine lv_idiv hx hb dL_parent_4 (by decide) ?_
  refine lv_istore_n (lv' := [(2, .int ((p0 - 1) / 2)), (0, .int p0), (1, .ref a_ho)]) hx hb dL_parent_5 rfl hl (by decide) rfl (fun ls hl => ?_)
  obtain ⟨y2_6, e6, hm⟩ := bs hm
  try dsimp only at hm
  refine wL_parent_L6 dC dI cA a_ho f_ho p0  y2_6 hx hb hml hown hts hK (hP.sub [0] rfl) ?_ FU _ e6 _ (lv_sub hl [2, 0] rfl)
  · intro ls hl
    refine lv_iload_n hx hb dL_parent_21 rfl (lv_at hl 1 rfl) ?_
    cases hm
    exact ro_iret hx hb hr rfl rfl dL_parent_22 hlocks
def mL_children_L6 (f_ho : Nat → Int32) (x0_6 : Int32) : Nat → (Int32) → (Int32) → Option (Int32 × Int32)
  | 0, _, _ => none
  | n + 1, x2_6, x3_6 =>
    (if 15 ≤ x3_6 then
      some (x2_6, x3_6)
    else
      ((rdA 15 f_ho x3_6).bind fun r15 =>
      (if r15 = 1 then
        ((mL_parent f_ho x3_6).bind fun r22 =>
        mL_children_L6 f_ho x0_6 n (x2_6 + (if r22 = x0_6 then (1 : Int32) else 0)) (x3_6 + 1))
      else
        mL_children_L6 f_ho x0_6 n (x2_6 + 0) (x3_6 + 1))))
def mL_children (f_ho : Nat → Int32) (p0 : Int32) : Option (Int32) :=
  ((mL_children_L6 f_ho p0 FU 0 (p0 + 1)).bind fun (y2_6, y3_6) =>
  some y2_6)
abbrev rmL_children : Room := { frames := 1, cells := 0, slots := 0, locals := 22 }
abbrev wL_children (cA : ClassId) (a_ho : Nat) (f_ho : Nat → Int32) : va_W := [(a_ho, .inl (cA, 15, .inl f_ho))]
theorem hdL_children : yL_children.cls = RL ∧ yL_children.cls ≠ "java/lang/invoke/MethodHandle" ∧ yL_children.cls ≠ "java/lang/invoke/VarHandle" ∧ (parseMethodDescriptor yL_children.desc).map (fun d => d.parameters.length) = some 2 := by decide +kernel
set_option maxHeartbeats 4000000 in
set_option maxRecDepth 100000 in
theorem wL_children_L6 {p : Program} {l : Launch} {e : Env} {s : State} {m : MethodId} {args : Array Value} {below : List Frame} {meth : Method} {c : Code} {Q : State → Prop} {H : Heap} (dC : Nat → ClassId) (dI : Nat → Nat → Nat) (cA : ClassId) (a_ho : Nat) (f_ho : Nat → Int32) (p0 x0_6 y2_6 y3_6 : Int32) (hx : p.tables.exec = Jvm.exec) (hb : c.code = cL_children) (hml : c.maxLocals = 4) (hown : s.vm.findClass RL = some m.cls) (hts : ∀ w ∈ wsL_children, w.before args s = true) (hK : va_K (dC, dI) vwCl [(cA, .int)] s) (hP : va_P (dC, dI) vwCl [(a_ho, .inl (cA, 15, .inl f_ho))] H)
    (kk0 : ∀ ls : Array Slot, lv_has ls 4 [(0, .int x0_6), (1, .ref a_ho), (2, .int y2_6), (3, .int y3_6)] → W p l e (headSpec wsL_children rmL_children).room s m args below meth c H [] 0 0 Q (F0 m 42 ls [])) :
    ∀ (n : Nat) (x2_6 x3_6 : Int32), mL_children_L6 f_ho x0_6 n x2_6 x3_6 = some (y2_6, y3_6) → ∀ ls : Array Slot, lv_has ls 4 [(0, .int x0_6), (1, .ref a_ho), (2, .int x2_6), (3, .int x3_6)] → W p l e (headSpec wsL_children rmL_children).room s m args below meth c H [] 0 0 Q (F0 m 6 ls []) := by
  intro n
  induction n with
  | zero =>
    intro x2_6 x3_6 hm
    cases hm
  | succ n ih =>
    intro x2_6 x3_6 hm ls hl
    rw [mL_children_L6] at hm
    refine lv_iload_n hx hb dL_children_6 rfl (lv_at hl 3 rfl) ?_
    refine lv_bipush (v := 15) hx hb dL_children_7 (by decide) ?_
    refine lv_icmp_ge (tgt := 42) hx hb dL_children_9 (by decide) (fun c9 => ?_) (fun c9 => ?_)
    · rw [if_pos c9] at hm
      cases hm
      exact kk0 _ (lv_sub hl [0, 1, 2, 3] rfl)
    · rw [if_neg c9] at hm
      refine lv_iload_n hx hb dL_children_12 rfl (lv_at hl 2 rfl) ?_
      refine lv_aload_n hx hb dL_children_13 rfl (lv_at hl 1 rfl) ?_
      refine lv_iload_n hx hb dL_children_14 rfl (lv_at hl 3 rfl) ?_
      obtain ⟨r15, e15, hm⟩ := bs hm
      try dsimp only at hm
      refine xa_ldO hx hb hK hP 0 0 rfl rfl e15 dL_children_15 ?_
      refine lv_iconst (v := 1) hx hb dL_children_16 (by decide) ?_
      refine lv_icmp_ne (tgt := 33) hx hb dL_children_17 (by decide) (fun c17 => ?_) (fun c17 => ?_)
      · rw [if_neg c17] at hm
        refine lv_iconst (v := 0) hx hb dL_children_33 (by decide) ?_
        refine lv_iadd hx hb dL_children_34 ?_
        refine lv_istore_n (lv' := [(2, .int (x2_6 + 0)), (0, .int x0_6), (1, .ref a_ho), (3, .int x3_6)]) hx hb dL_children_35 rfl hl (by decide) rfl (fun ls hl => ?_)
        refine lv_iinc (v := (x3_6 + 1)) (lv' := [(3, .int (x3_6 + 1)), (2, .int (x2_6 + 0)), (0, .int x0_6), (1, .ref a_ho)]) hx hb dL_children_36 hl (k := 3) rfl rfl (by decide) rfl (fun ls hl => ?_)
        refine lv_goto (tgt := 6) hx hb dL_children_39 (by decide) ?_
        exact ih _ _ hm _ (lv_sub hl [2, 3, 1, 0] rfl)
      · rw [if_pos c17] at hm
        refine lv_iload_n hx hb dL_children_20 rfl (lv_at hl 3 rfl) ?_
        refine lv_aload_n hx hb dL_children_21 rfl (lv_at hl 1 rfl) ?_
        obtain ⟨r22, e22, hm⟩ := bs hm
        try dsimp only at hm
        refine ro_callSe ⟨hx, hb, hml, hown, hts⟩ (kL_parent l dC dI cA a_ho f_ho x3_6 r22 e22) (va_cwS 2 hts gL_children_L_parent rfl rfl rfl hdL_parent.2 ⟨Nat.le_of_ble_eq_true rfl, Nat.le_of_ble_eq_true rfl⟩) (hP.sub [0] rfl) hK rfl hl.1 rfl (Nat.le_of_ble_eq_true rfl) dL_children_22 ⟨Nat.zero_le _, Nat.zero_le _⟩ ?_
        refine lv_iload_n hx hb dL_children_25 rfl (lv_at hl 0 rfl) ?_
        refine lv_icmp_ne (tgt := 33) hx hb dL_children_26 (by decide) (fun c26 => ?_) (fun c26 => ?_)
        · try simp only [if_neg c26] at hm
          refine lv_iconst (v := 0) hx hb dL_children_33 (by decide) ?_
          refine lv_iadd hx hb dL_children_34 ?_
          refine lv_istore_n (lv' := [(2, .int (x2_6 + 0)), (0, .int x0_6), (1, .ref a_ho), (3, .int x3_6)]) hx hb dL_children_35 rfl hl (by decide) rfl (fun ls hl => ?_)
          refine lv_iinc (v := (x3_6 + 1)) (lv' := [(3, .int (x3_6 + 1)), (2, .int (x2_6 + 0)), (0, .int x0_6), (1, .ref a_ho)]) hx hb dL_children_36 hl (k := 3) rfl rfl (by decide) rfl (fun ls hl => ?_)
          refine lv_goto (tgt := 6) hx hb dL_children_39 (by decide) ?_
          exact ih _ _ hm _ (lv_sub hl [2, 3, 1, 0] rfl)
        · try simp only [if_pos c26] at hm
          refine lv_iconst (v := 1) hx hb dL_children_29 (by decide) ?_
          refine lv_goto (tgt := 34) hx hb dL_children_30 (by decide) ?_
          refine lv_iadd hx hb dL_children_34 ?_
          refine lv_istore_n (lv' := [(2, .int (x2_6 + 1)), (0, .int x0_6), (1, .ref a_ho), (3, .int x3_6)]) hx hb dL_children_35 rfl hl (by decide) rfl (fun ls hl => ?_)
          refine lv_iinc (v := (x3_6 + 1)) (lv' := [(3, .int (x3_6 + 1)), (2, .int (x2_6 + 1)), (0, .int x0_6), (1, .ref a_ho)]) hx hb dL_children_36 hl (k := 3) rfl rfl (by decide) rfl (fun ls hl => ?_)
          refine lv_goto (tgt := 6) hx hb dL_children_39 (by decide) ?_
          exact ih _ _ hm _ (lv_sub hl [2, 3, 1, 0] rfl)
set_option maxHeartbeats 4000000 in
set_option maxRecDepth 100000 in
theorem kL_children (l : Launch) (dC : Nat → ClassId) (dI : Nat → Nat → Nat) (cA : ClassId) (a_ho : Nat) (f_ho : Nat → Int32) (p0 r : Int32) (hm : (mL_children f_ho p0) = some r) : Met l yL_children wsL_children rmL_children (rpc (dC, dI) [(cA, .int)] (wL_children cA a_ho f_ho) [.int p0, .ref a_ho]) (vp_Si (fun x => x = r)) 0 0 (fun _ => False) := by
  unfold mL_children at hm
  refine ro_ofW (cc := cL_children) (maxL := 4) (ret := (some .int)) (own := RL) (by decide) rfl rfl (Nat.le_of_ble_eq_true rfl) ?_
  intro p e s m args below meth c hx hb hr hts hown hlocks hml hP hK ls hl
  have hl : lv_has ls 4 [(0, .int p0), (1, .ref a_ho)] := hl
  have hP : va_P (dC, dI) vwCl [(a_ho, .inl (cA, 15, .inl f_ho))] s.heap := hP
  refine lv_iconst (v := 0) hx hb dL_children_0 (by decide) ?_
  refine lv_istore_n (lv' := [(2, .int 0), (0, .int p0), (1, .ref a_ho)]) hx hb dL_children_1 rfl hl (by decide) rfl (fun ls hl => ?_)
  refine lv_iload_n hx hb dL_children_2 rfl (lv_at hl 1 rfl) ?_
  refine lv_iconst (v := 1) hx hb dL_children_3 (by decide) ?_
  refine lv_iadd hx hb dL_children_4 ?_
  refine lv_istore_n (lv' := [(3, .int (p0 + 1)), (2, .int 0), (0, .int p0), (1, .ref a_ho)]) hx hb dL_children_5 rfl hl (by decide) rfl (fun ls hl => ?_)
  obtain ⟨⟨y2_6, y3_6⟩, e6, hm⟩ := bs hm
  try dsimp only at hm
  refine wL_children_L6 dC dI cA a_ho f_ho p0 p0 y2_6 y3_6 hx hb hml hown hts hK (hP.sub [0] rfl) ?_ FU _ _ e6 _ (lv_sub hl [2, 3, 1, 0] rfl)
  · intro ls hl
    refine lv_iload_n hx hb dL_children_42 rfl (lv_at hl 2 rfl) ?_
    cases hm
    exact ro_iret hx hb hr rfl rfl dL_children_43 hlocks
def mL_child_L5 (x0_5 : Int32) (f_ho : Nat → Int32) : Nat → (Int32) → (Int32) → Option (Int32 × Int32)
  | 0, _, _ => none
  | n + 1, x2_5, x3_5 =>
    (if x3_5 ≤ x0_5 then
      some (x2_5, x3_5)
    else
      ((rdA 15 f_ho x3_5).bind fun r12 =>
      (if r12 = 1 then
        ((mL_parent f_ho x3_5).bind fun r19 =>
        mL_child_L5 x0_5 f_ho n (if r19 = x0_5 then x3_5 else x2_5) (x3_5 + (-1)))
      else
        mL_child_L5 x0_5 f_ho n x2_5 (x3_5 + (-1)))))
def mL_child (f_ho : Nat → Int32) (p0 : Int32) : Option (Int32) :=
  ((mL_child_L5 p0 f_ho FU (-1) 14).bind fun (y2_5, y3_5) =>
  some y2_5)
abbrev rmL_child : Room := { frames := 1, cells := 0, slots := 0, locals := 22 }
abbrev wL_child (cA : ClassId) (a_ho : Nat) (f_ho : Nat → Int32) : va_W := [(a_ho, .inl (cA, 15, .inl f_ho))]
theorem hdL_child : yL_child.cls = RL ∧ yL_child.cls ≠ "java/lang/invoke/MethodHandle" ∧ yL_child.cls ≠ "java/lang/invoke/VarHandle" ∧ (parseMethodDescriptor yL_child.desc).map (fun d => d.parameters.length) = some 2 := by decide +kernel
set_option maxHeartbeats 4000000 in
set_option maxRecDepth 100000 in
theorem wL_child_L5 {p : Program} {l : Launch} {e : Env} {s : State} {m : MethodId} {args : Array Value} {below : List Frame} {meth : Method} {c : Code} {Q : State → Prop} {H : Heap} (dC : Nat → ClassId) (dI : Nat → Nat → Nat) (cA : ClassId) (a_ho : Nat) (f_ho : Nat → Int32) (p0 x0_5 y2_5 y3_5 : Int32) (hx : p.tables.exec = Jvm.exec) (hb : c.code = cL_child) (hml : c.maxLocals = 4) (hown : s.vm.findClass RL = some m.cls) (hts : ∀ w ∈ wsL_child, w.before args s = true) (hK : va_K (dC, dI) vwCl [(cA, .int)] s) (hP : va_P (dC, dI) vwCl [(a_ho, .inl (cA, 15, .inl f_ho))] H)
    (kk0 : ∀ ls : Array Slot, lv_has ls 4 [(0, .int x0_5), (1, .ref a_ho), (2, .int y2_5), (3, .int y3_5)] → W p l e (headSpec wsL_child rmL_child).room s m args below meth c H [] 0 0 Q (F0 m 38 ls [])) :
    ∀ (n : Nat) (x2_5 x3_5 : Int32), mL_child_L5 x0_5 f_ho n x2_5 x3_5 = some (y2_5, y3_5) → ∀ ls : Array Slot, lv_has ls 4 [(0, .int x0_5), (1, .ref a_ho), (2, .int x2_5), (3, .int x3_5)] → W p l e (headSpec wsL_child rmL_child).room s m args below meth c H [] 0 0 Q (F0 m 5 ls []) := by
  intro n
  induction n with
  | zero =>
    intro x2_5 x3_5 hm
    cases hm
  | succ n ih =>
    intro x2_5 x3_5 hm ls hl
    rw [mL_child_L5] at hm
    refine lv_iload_n hx hb dL_child_5 rfl (lv_at hl 3 rfl) ?_
    refine lv_iload_n hx hb dL_child_6 rfl (lv_at hl 0 rfl) ?_
    refine lv_icmp_le (tgt := 38) hx hb dL_child_7 (by decide) (fun c7 => ?_) (fun c7 => ?_)
    · rw [if_pos c7] at hm
      cases hm
      exact kk0 _ (lv_sub hl [0, 1, 2, 3] rfl)
    · rw [if_neg c7] at hm
      refine lv_aload_n hx hb dL_child_10 rfl (lv_at hl 1 rfl) ?_
      refine lv_iload_n hx hb dL_child_11 rfl (lv_at hl 3 rfl) ?_
      obtain ⟨r12, e12, hm⟩ := bs hm
      try dsimp only at hm
      refine xa_ldO hx hb hK hP 0 0 rfl rfl e12 dL_child_12 ?_
      refine lv_iconst (v := 1) hx hb dL_child_13 (by decide) ?_
      refine lv_icmp_ne (tgt := 30) hx hb dL_child_14 (by decide) (fun c14 => ?_) (fun c14 => ?_)
      · rw [if_neg c14] at hm
        refine lv_iload_n hx hb dL_child_30 rfl (lv_at hl 2 rfl) ?_
        refine lv_istore_n (lv' := [(2, .int x2_5), (0, .int x0_5), (1, .ref a_ho), (3, .int x3_5)]) hx hb dL_child_31 rfl hl (by decide) rfl (fun ls hl => ?_)
        refine lv_iinc (v := (x3_5 + (-1))) (lv' := [(3, .int (x3_5 + (-1))), (2, .int x2_5), (0, .int x0_5), (1, .ref a_ho)]) hx hb dL_child_32 hl (k := 3) rfl rfl (by decide) rfl (fun ls hl => ?_)
        refine lv_goto (tgt := 5) hx hb dL_child_35 (by decide) ?_
        exact ih _ _ hm _ (lv_sub hl [2, 3, 1, 0] rfl)
      · rw [if_pos c14] at hm
        refine lv_iload_n hx hb dL_child_17 rfl (lv_at hl 3 rfl) ?_
        refine lv_aload_n hx hb dL_child_18 rfl (lv_at hl 1 rfl) ?_
        obtain ⟨r19, e19, hm⟩ := bs hm
        try dsimp only at hm
        refine ro_callSe ⟨hx, hb, hml, hown, hts⟩ (kL_parent l dC dI cA a_ho f_ho x3_5 r19 e19) (va_cwS 2 hts gL_child_L_parent rfl rfl rfl hdL_parent.2 ⟨Nat.le_of_ble_eq_true rfl, Nat.le_of_ble_eq_true rfl⟩) (hP.sub [0] rfl) hK rfl hl.1 rfl (Nat.le_of_ble_eq_true rfl) dL_child_19 ⟨Nat.zero_le _, Nat.zero_le _⟩ ?_
        refine lv_iload_n hx hb dL_child_22 rfl (lv_at hl 0 rfl) ?_
        refine lv_icmp_ne (tgt := 30) hx hb dL_child_23 (by decide) (fun c23 => ?_) (fun c23 => ?_)
        · try simp only [if_neg c23] at hm
          refine lv_iload_n hx hb dL_child_30 rfl (lv_at hl 2 rfl) ?_
          refine lv_istore_n (lv' := [(2, .int x2_5), (0, .int x0_5), (1, .ref a_ho), (3, .int x3_5)]) hx hb dL_child_31 rfl hl (by decide) rfl (fun ls hl => ?_)
          refine lv_iinc (v := (x3_5 + (-1))) (lv' := [(3, .int (x3_5 + (-1))), (2, .int x2_5), (0, .int x0_5), (1, .ref a_ho)]) hx hb dL_child_32 hl (k := 3) rfl rfl (by decide) rfl (fun ls hl => ?_)
          refine lv_goto (tgt := 5) hx hb dL_child_35 (by decide) ?_
          exact ih _ _ hm _ (lv_sub hl [2, 3, 1, 0] rfl)
        · try simp only [if_pos c23] at hm
          refine lv_iload_n hx hb dL_child_26 rfl (lv_at hl 3 rfl) ?_
          refine lv_goto (tgt := 31) hx hb dL_child_27 (by decide) ?_
          refine lv_istore_n (lv' := [(2, .int x3_5), (0, .int x0_5), (1, .ref a_ho), (3, .int x3_5)]) hx hb dL_child_31 rfl hl (by decide) rfl (fun ls hl => ?_)
          refine lv_iinc (v := (x3_5 + (-1))) (lv' := [(3, .int (x3_5 + (-1))), (2, .int x3_5), (0, .int x0_5), (1, .ref a_ho)]) hx hb dL_child_32 hl (k := 3) rfl rfl (by decide) rfl (fun ls hl => ?_)
          refine lv_goto (tgt := 5) hx hb dL_child_35 (by decide) ?_
          exact ih _ _ hm _ (lv_sub hl [2, 3, 1, 0] rfl)
set_option maxHeartbeats 4000000 in
set_option maxRecDepth 100000 in
theorem kL_child (l : Launch) (dC : Nat → ClassId) (dI : Nat → Nat → Nat) (cA : ClassId) (a_ho : Nat) (f_ho : Nat → Int32) (p0 r : Int32) (hm : (mL_child f_ho p0) = some r) : Met l yL_child wsL_child rmL_child (rpc (dC, dI) [(cA, .int)] (wL_child cA a_ho f_ho) [.int p0, .ref a_ho]) (vp_Si (fun x => x = r)) 0 0 (fun _ => False) := by
  unfold mL_child at hm
  refine ro_ofW (cc := cL_child) (maxL := 4) (ret := (some .int)) (own := RL) (by decide) rfl rfl (Nat.le_of_ble_eq_true rfl) ?_
  intro p e s m args below meth c hx hb hr hts hown hlocks hml hP hK ls hl
  have hl : lv_has ls 4 [(0, .int p0), (1, .ref a_ho)] := hl
  have hP : va_P (dC, dI) vwCl [(a_ho, .inl (cA, 15, .inl f_ho))] s.heap := hP
  refine lv_iconst (v := (-1)) hx hb dL_child_0 (by decide) ?_
  refine lv_istore_n (lv' := [(2, .int (-1)), (0, .int p0), (1, .ref a_ho)]) hx hb dL_child_1 rfl hl (by decide) rfl (fun ls hl => ?_)
  refine lv_bipush (v := 14) hx hb dL_child_2 (by decide) ?_
  refine lv_istore_n (lv' := [(3, .int 14), (2, .int (-1)), (0, .int p0), (1, .ref a_ho)]) hx hb dL_child_4 rfl hl (by decide) rfl (fun ls hl => ?_)
  obtain ⟨⟨y2_5, y3_5⟩, e5, hm⟩ := bs hm
  try dsimp only at hm
  refine wL_child_L5 dC dI cA a_ho f_ho p0 p0 y2_5 y3_5 hx hb hml hown hts hK (hP.sub [0] rfl) ?_ FU _ _ e5 _ (lv_sub hl [2, 3, 1, 0] rfl)
  · intro ls hl
    refine lv_iload_n hx hb dL_child_38 rfl (lv_at hl 2 rfl) ?_
    cases hm
    exact ro_iret hx hb hr rfl rfl dL_child_39 hlocks
def mL_roads_L4 (f_ho : Nat → Int32) : Nat → (Int32) → (Int32) → Option (Int32 × Int32)
  | 0, _, _ => none
  | n + 1, x2_4, x3_4 =>
    (if x3_4 ≤ 0 then
      some (x2_4, x3_4)
    else
      ((rdA 15 f_ho x3_4).bind fun r11 =>
      mL_roads_L4 f_ho n (x2_4 + r11) ((x3_4 - 1) / 2)))
def mL_roads (f_ho : Nat → Int32) (p0 : Int32) : Option (Int32) :=
  ((mL_roads_L4 f_ho FU 0 p0).bind fun (y2_4, y3_4) =>
  some y2_4)
abbrev rmL_roads : Room := { frames := 0, cells := 0, slots := 0, locals := 0 }
abbrev wL_roads (cA : ClassId) (a_ho : Nat) (f_ho : Nat → Int32) : va_W := [(a_ho, .inl (cA, 15, .inl f_ho))]
theorem hdL_roads : yL_roads.cls = RL ∧ yL_roads.cls ≠ "java/lang/invoke/MethodHandle" ∧ yL_roads.cls ≠ "java/lang/invoke/VarHandle" ∧ (parseMethodDescriptor yL_roads.desc).map (fun d => d.parameters.length) = some 2 := by decide +kernel
set_option maxHeartbeats 4000000 in
set_option maxRecDepth 100000 in
theorem wL_roads_L4 {p : Program} {l : Launch} {e : Env} {s : State} {m : MethodId} {args : Array Value} {below : List Frame} {meth : Method} {c : Code} {Q : State → Prop} {H : Heap} (dC : Nat → ClassId) (dI : Nat → Nat → Nat) (cA : ClassId) (a_ho : Nat) (f_ho : Nat → Int32) (p0 y2_4 y3_4 : Int32) (hx : p.tables.exec = Jvm.exec) (hb : c.code = cL_roads) (hml : c.maxLocals = 4) (hown : s.vm.findClass RL = some m.cls) (hts : ∀ w ∈ wsL_roads, w.before args s = true) (hK : va_K (dC, dI) vwCl [(cA, .int)] s) (hP : va_P (dC, dI) vwCl [(a_ho, .inl (cA, 15, .inl f_ho))] H)
    (kk0 : ∀ ls : Array Slot, lv_has ls 4 [(1, .ref a_ho), (2, .int y2_4), (3, .int y3_4)] → W p l e (headSpec wsL_roads rmL_roads).room s m args below meth c H [] 0 0 Q (F0 m 23 ls [])) :
    ∀ (n : Nat) (x2_4 x3_4 : Int32), mL_roads_L4 f_ho n x2_4 x3_4 = some (y2_4, y3_4) → ∀ ls : Array Slot, lv_has ls 4 [(1, .ref a_ho), (2, .int x2_4), (3, .int x3_4)] → W p l e (headSpec wsL_roads rmL_roads).room s m args below meth c H [] 0 0 Q (F0 m 4 ls []) := by
  intro n
  induction n with
  | zero =>
    intro x2_4 x3_4 hm
    cases hm
  | succ n ih =>
    intro x2_4 x3_4 hm ls hl
    rw [mL_roads_L4] at hm
    refine lv_iload_n hx hb dL_roads_4 rfl (lv_at hl 2 rfl) ?_
    refine lv_if_le (tgt := 23) hx hb dL_roads_5 (by decide) (fun c5 => ?_) (fun c5 => ?_)
    · rw [if_pos c5] at hm
      cases hm
      exact kk0 _ (lv_sub hl [0, 1, 2] rfl)
    · rw [if_neg c5] at hm
      refine lv_iload_n hx hb dL_roads_8 rfl (lv_at hl 1 rfl) ?_
      refine lv_aload_n hx hb dL_roads_9 rfl (lv_at hl 0 rfl) ?_
      refine lv_iload_n hx hb dL_roads_10 rfl (lv_at hl 2 rfl) ?_
      obtain ⟨r11, e11, hm⟩ := bs hm
      try dsimp only at hm
      refine xa_ldO hx hb hK hP 0 0 rfl rfl e11 dL_roads_11 ?_
      refine lv_iadd hx hb dL_roads_12 ?_
      refine lv_istore_n (lv' := [(2, .int (x2_4 + r11)), (1, .ref a_ho), (3, .int x3_4)]) hx hb dL_roads_13 rfl hl (by decide) rfl (fun ls hl => ?_)
      refine lv_iload_n hx hb dL_roads_14 rfl (lv_at hl 2 rfl) ?_
      refine lv_iconst (v := 1) hx hb dL_roads_15 (by decide) ?_
      refine lv_isub hx hb dL_roads_16 ?_
      refine lv_iconst (v := 2) hx hb dL_roads_17 (by decide) ?_
      refine lv_idiv hx hb dL_roads_18 (by decide) ?_
      refine lv_istore_n (lv' := [(3, .int ((x3_4 - 1) / 2)), (2, .int (x2_4 + r11)), (1, .ref a_ho)]) hx hb dL_roads_19 rfl hl (by decide) rfl (fun ls hl => ?_)
      refine lv_goto (tgt := 4) hx hb dL_roads_20 (by decide) ?_
      exact ih _ _ hm _ (lv_sub hl [2, 1, 0] rfl)
set_option maxHeartbeats 4000000 in
set_option maxRecDepth 100000 in
theorem kL_roads (l : Launch) (dC : Nat → ClassId) (dI : Nat → Nat → Nat) (cA : ClassId) (a_ho : Nat) (f_ho : Nat → Int32) (p0 r : Int32) (hm : (mL_roads f_ho p0) = some r) : Met l yL_roads wsL_roads rmL_roads (rpc (dC, dI) [(cA, .int)] (wL_roads cA a_ho f_ho) [.int p0, .ref a_ho]) (vp_Si (fun x => x = r)) 0 0 (fun _ => False) := by
  unfold mL_roads at hm
  refine ro_ofW (cc := cL_roads) (maxL := 4) (ret := (some .int)) (own := RL) (by decide) rfl rfl (Nat.le_of_ble_eq_true rfl) ?_
  intro p e s m args below meth c hx hb hr hts hown hlocks hml hP hK ls hl
  have hl : lv_has ls 4 [(0, .int p0), (1, .ref a_ho)] := hl
  have hP : va_P (dC, dI) vwCl [(a_ho, .inl (cA, 15, .inl f_ho))] s.heap := hP
  refine lv_iconst (v := 0) hx hb dL_roads_0 (by decide) ?_
  refine lv_istore_n (lv' := [(2, .int 0), (0, .int p0), (1, .ref a_ho)]) hx hb dL_roads_1 rfl hl (by decide) rfl (fun ls hl => ?_)
  refine lv_iload_n hx hb dL_roads_2 rfl (lv_at hl 1 rfl) ?_
  refine lv_istore_n (lv' := [(3, .int p0), (2, .int 0), (0, .int p0), (1, .ref a_ho)]) hx hb dL_roads_3 rfl hl (by decide) rfl (fun ls hl => ?_)
  obtain ⟨⟨y2_4, y3_4⟩, e4, hm⟩ := bs hm
  try dsimp only at hm
  refine wL_roads_L4 dC dI cA a_ho f_ho p0  y2_4 y3_4 hx hb hml hown hts hK (hP.sub [0] rfl) ?_ FU _ _ e4 _ (lv_sub hl [3, 1, 0] rfl)
  · intro ls hl
    refine lv_iload_n hx hb dL_roads_23 rfl (lv_at hl 1 rfl) ?_
    cases hm
    exact ro_iret hx hb hr rfl rfl dL_roads_24 hlocks
def mL_reason (f_q : Nat → Int32) (f_na : Nat → Int32) (f_ho : Nat → Int32) (p0 : Int32) : Option (Int32) :=
  (if p0 = 0 then
    some 1
  else
    ((rdA 15 f_na p0).bind fun r8 =>
    (if r8 = 1 then
      some 2
    else
      ((mL_children f_ho p0).bind fun r17 =>
      (if r17 ≤ 1 then
        ((mL_child f_ho p0).bind fun r28 =>
        ((mL_parent f_ho p0).bind fun r36 =>
        some (if ((mL_length r28) - (mL_length r36)) ≤ (f_q 0) then (0 : Int32) else 4)))
      else
        some 3)))))
abbrev rmL_reason : Room := { frames := 2, cells := 0, slots := 0, locals := 45 }
abbrev wL_reason (cA : ClassId) (a_q a_na a_ho : Nat) (f_q f_na f_ho : Nat → Int32) : va_W := [(a_q, .inl (cA, 5, .inl f_q)), (a_na, .inl (cA, 15, .inl f_na)), (a_ho, .inl (cA, 15, .inl f_ho))]
theorem hdL_reason : yL_reason.cls = RL ∧ yL_reason.cls ≠ "java/lang/invoke/MethodHandle" ∧ yL_reason.cls ≠ "java/lang/invoke/VarHandle" ∧ (parseMethodDescriptor yL_reason.desc).map (fun d => d.parameters.length) = some 4 := by decide +kernel
set_option maxHeartbeats 4000000 in
set_option maxRecDepth 100000 in
theorem kL_reason (l : Launch) (dC : Nat → ClassId) (dI : Nat → Nat → Nat) (cA : ClassId) (a_q a_na a_ho : Nat) (f_q f_na f_ho : Nat → Int32) (p0 r : Int32) (hm : (mL_reason f_q f_na f_ho p0) = some r) : Met l yL_reason wsL_reason rmL_reason (rpc (dC, dI) [(cA, .int)] (wL_reason cA a_q a_na a_ho f_q f_na f_ho) [.int p0, .ref a_q, .ref a_na, .ref a_ho]) (vp_Si (fun x => x = r)) 0 0 (fun _ => False) := by
  unfold mL_reason at hm
  refine ro_ofW (cc := cL_reason) (maxL := 4) (ret := (some .int)) (own := RL) (by decide) rfl rfl (Nat.le_of_ble_eq_true rfl) ?_
  intro p e s m args below meth c hx hb hr hts hown hlocks hml hP hK ls hl
  have hl : lv_has ls 4 [(0, .int p0), (1, .ref a_q), (2, .ref a_na), (3, .ref a_ho)] := hl
  have hP : va_P (dC, dI) vwCl [(a_q, .inl (cA, 5, .inl f_q)), (a_na, .inl (cA, 15, .inl f_na)), (a_ho, .inl (cA, 15, .inl f_ho))] s.heap := hP
  refine lv_iload_n hx hb dL_reason_0 rfl (lv_at hl 0 rfl) ?_
  refine lv_if_ne (tgt := 6) hx hb dL_reason_1 (by decide) (fun c1 => ?_) (fun c1 => ?_)
  · rw [if_neg c1] at hm
    refine lv_aload_n hx hb dL_reason_6 rfl (lv_at hl 2 rfl) ?_
    refine lv_iload_n hx hb dL_reason_7 rfl (lv_at hl 0 rfl) ?_
    obtain ⟨r8, e8, hm⟩ := bs hm
    try dsimp only at hm
    refine xa_ldO hx hb hK hP 1 0 rfl rfl e8 dL_reason_8 ?_
    refine lv_iconst (v := 1) hx hb dL_reason_9 (by decide) ?_
    refine lv_icmp_ne (tgt := 15) hx hb dL_reason_10 (by decide) (fun c10 => ?_) (fun c10 => ?_)
    · rw [if_neg c10] at hm
      refine lv_iload_n hx hb dL_reason_15 rfl (lv_at hl 0 rfl) ?_
      refine lv_aload_n hx hb dL_reason_16 rfl (lv_at hl 3 rfl) ?_
      obtain ⟨r17, e17, hm⟩ := bs hm
      try dsimp only at hm
      refine ro_callSe ⟨hx, hb, hml, hown, hts⟩ (kL_children l dC dI cA a_ho f_ho p0 r17 e17) (va_cwS 2 hts gL_reason_L_children rfl rfl rfl hdL_children.2 ⟨Nat.le_of_ble_eq_true rfl, Nat.le_of_ble_eq_true rfl⟩) (hP.sub [2] rfl) hK rfl hl.1 rfl (Nat.le_of_ble_eq_true rfl) dL_reason_17 ⟨Nat.zero_le _, Nat.zero_le _⟩ ?_
      refine lv_iconst (v := 1) hx hb dL_reason_20 (by decide) ?_
      refine lv_icmp_le (tgt := 26) hx hb dL_reason_21 (by decide) (fun c21 => ?_) (fun c21 => ?_)
      · rw [if_pos c21] at hm
        refine lv_iload_n hx hb dL_reason_26 rfl (lv_at hl 0 rfl) ?_
        refine lv_aload_n hx hb dL_reason_27 rfl (lv_at hl 3 rfl) ?_
        obtain ⟨r28, e28, hm⟩ := bs hm
        try dsimp only at hm
        refine ro_callSe ⟨hx, hb, hml, hown, hts⟩ (kL_child l dC dI cA a_ho f_ho p0 r28 e28) (va_cwS 2 hts gL_reason_L_child rfl rfl rfl hdL_child.2 ⟨Nat.le_of_ble_eq_true rfl, Nat.le_of_ble_eq_true rfl⟩) (hP.sub [2] rfl) hK rfl hl.1 rfl (Nat.le_of_ble_eq_true rfl) dL_reason_28 ⟨Nat.zero_le _, Nat.zero_le _⟩ ?_
        refine sp_callSe ⟨hx, hb, hml, hown, hts⟩ (kL_length l r28) (va_cwS 1 hts gL_reason_L_length rfl rfl rfl hdL_length.2 ⟨Nat.le_of_ble_eq_true rfl, Nat.le_of_ble_eq_true rfl⟩) rfl hl.1 rfl (Nat.le_of_ble_eq_true rfl) dL_reason_31 ⟨Nat.zero_le _, Nat.zero_le _⟩ ?_
        refine lv_iload_n hx hb dL_reason_34 rfl (lv_at hl 0 rfl) ?_
        refine lv_aload_n hx hb dL_reason_35 rfl (lv_at hl 3 rfl) ?_
        obtain ⟨r36, e36, hm⟩ := bs hm
        try dsimp only at hm
        refine ro_callSe ⟨hx, hb, hml, hown, hts⟩ (kL_parent l dC dI cA a_ho f_ho p0 r36 e36) (va_cwS 2 hts gL_reason_L_parent rfl rfl rfl hdL_parent.2 ⟨Nat.le_of_ble_eq_true rfl, Nat.le_of_ble_eq_true rfl⟩) (hP.sub [2] rfl) hK rfl hl.1 rfl (Nat.le_of_ble_eq_true rfl) dL_reason_36 ⟨Nat.zero_le _, Nat.zero_le _⟩ ?_
        refine sp_callSe ⟨hx, hb, hml, hown, hts⟩ (kL_length l r36) (va_cwS 1 hts gL_reason_L_length rfl rfl rfl hdL_length.2 ⟨Nat.le_of_ble_eq_true rfl, Nat.le_of_ble_eq_true rfl⟩) rfl hl.1 rfl (Nat.le_of_ble_eq_true rfl) dL_reason_39 ⟨Nat.zero_le _, Nat.zero_le _⟩ ?_
        refine lv_isub hx hb dL_reason_42 ?_
        refine lv_aload_n hx hb dL_reason_43 rfl (lv_at hl 1 rfl) ?_
        refine lv_iconst (v := 0) hx hb dL_reason_44 (by decide) ?_
        refine xa_ldK hx hb hK hP 0 0 rfl rfl 0 rfl (by decide) (by decide) dL_reason_45 ?_
        refine lv_icmp_le (tgt := 53) hx hb dL_reason_46 (by decide) (fun c46 => ?_) (fun c46 => ?_)
        · try simp only [if_pos c46] at hm
          refine lv_iconst (v := 0) hx hb dL_reason_53 (by decide) ?_
          cases hm
          exact ro_iret hx hb hr rfl rfl dL_reason_54 hlocks
        · try simp only [if_neg c46] at hm
          refine lv_iconst (v := 4) hx hb dL_reason_49 (by decide) ?_
          refine lv_goto (tgt := 54) hx hb dL_reason_50 (by decide) ?_
          cases hm
          exact ro_iret hx hb hr rfl rfl dL_reason_54 hlocks
      · rw [if_neg c21] at hm
        refine lv_iconst (v := 3) hx hb dL_reason_24 (by decide) ?_
        cases hm
        exact ro_iret hx hb hr rfl rfl dL_reason_25 hlocks
    · rw [if_pos c10] at hm
      refine lv_iconst (v := 2) hx hb dL_reason_13 (by decide) ?_
      cases hm
      exact ro_iret hx hb hr rfl rfl dL_reason_14 hlocks
  · rw [if_pos c1] at hm
    refine lv_iconst (v := 1) hx hb dL_reason_4 (by decide) ?_
    cases hm
    exact ro_iret hx hb hr rfl rfl dL_reason_5 hlocks
def mL_below_L6 (f_na : Nat → Int32) (x0_6 : Int32) (x3_6 : Int32) (f_we : Nat → Int32) : Nat → (Int32) → (Int32) → Option (Int32 × Int32)
  | 0, _, _ => none
  | n + 1, x4_6, x5_6 =>
    (if 15 ≤ x5_6 then
      some (x4_6, x5_6)
    else
      ((rdA 15 f_na x5_6).bind fun r18 =>
      (if r18 = 1 then
        ((mL_above x0_6 x5_6).bind fun r26 =>
        (if r26 = 0 then
          mL_below_L6 f_na x0_6 x3_6 f_we n (x4_6 + 0) (x5_6 + 1)
        else
          (if x3_6 = 0 then
            mL_below_L6 f_na x0_6 x3_6 f_we n (x4_6 + 1) (x5_6 + 1)
          else
            ((rdA 15 f_we x5_6).bind fun r39 =>
            mL_below_L6 f_na x0_6 x3_6 f_we n (x4_6 + r39) (x5_6 + 1)))))
      else
        mL_below_L6 f_na x0_6 x3_6 f_we n (x4_6 + 0) (x5_6 + 1))))
def mL_below (f_na : Nat → Int32) (f_we : Nat → Int32) (p0 : Int32) (p3 : Int32) : Option (Int32) :=
  ((mL_below_L6 f_na p0 p3 f_we FU 0 p0).bind fun (y4_6, y5_6) =>
  some y4_6)
abbrev rmL_below : Room := { frames := 1, cells := 0, slots := 0, locals := 22 }
abbrev wL_below (cA : ClassId) (a_na a_we : Nat) (f_na f_we : Nat → Int32) : va_W := [(a_na, .inl (cA, 15, .inl f_na)), (a_we, .inl (cA, 15, .inl f_we))]
theorem hdL_below : yL_below.cls = RL ∧ yL_below.cls ≠ "java/lang/invoke/MethodHandle" ∧ yL_below.cls ≠ "java/lang/invoke/VarHandle" ∧ (parseMethodDescriptor yL_below.desc).map (fun d => d.parameters.length) = some 4 := by decide +kernel
set_option maxHeartbeats 4000000 in
set_option maxRecDepth 100000 in
theorem wL_below_L6 {p : Program} {l : Launch} {e : Env} {s : State} {m : MethodId} {args : Array Value} {below : List Frame} {meth : Method} {c : Code} {Q : State → Prop} {H : Heap} (dC : Nat → ClassId) (dI : Nat → Nat → Nat) (cA : ClassId) (a_na a_we : Nat) (f_na f_we : Nat → Int32) (p0 p3 x0_6 x3_6 y4_6 y5_6 : Int32) (hx : p.tables.exec = Jvm.exec) (hb : c.code = cL_below) (hml : c.maxLocals = 6) (hown : s.vm.findClass RL = some m.cls) (hts : ∀ w ∈ wsL_below, w.before args s = true) (hK : va_K (dC, dI) vwCl [(cA, .int)] s) (hP : va_P (dC, dI) vwCl [(a_na, .inl (cA, 15, .inl f_na)), (a_we, .inl (cA, 15, .inl f_we))] H)
    (kk0 : ∀ ls : Array Slot, lv_has ls 6 [(0, .int x0_6), (1, .ref a_na), (2, .ref a_we), (3, .int x3_6), (4, .int y4_6), (5, .int y5_6)] → W p l e (headSpec wsL_below rmL_below).room s m args below meth c H [] 0 0 Q (F0 m 57 ls [])) :
    ∀ (n : Nat) (x4_6 x5_6 : Int32), mL_below_L6 f_na x0_6 x3_6 f_we n x4_6 x5_6 = some (y4_6, y5_6) → ∀ ls : Array Slot, lv_has ls 6 [(0, .int x0_6), (1, .ref a_na), (2, .ref a_we), (3, .int x3_6), (4, .int x4_6), (5, .int x5_6)] → W p l e (headSpec wsL_below rmL_below).room s m args below meth c H [] 0 0 Q (F0 m 6 ls []) := by
  intro n
  induction n with
  | zero =>
    intro x4_6 x5_6 hm
    cases hm
  | succ n ih =>
    intro x4_6 x5_6 hm ls hl
    rw [mL_below_L6] at hm
    refine lv_iload hx hb dL_below_6 (lv_at hl 5 rfl) ?_
    refine lv_bipush (v := 15) hx hb dL_below_8 (by decide) ?_
    refine lv_icmp_ge (tgt := 57) hx hb dL_below_10 (by decide) (fun c10 => ?_) (fun c10 => ?_)
    · rw [if_pos c10] at hm
      cases hm
      exact kk0 _ (lv_sub hl [0, 1, 2, 3, 4, 5] rfl)
    · rw [if_neg c10] at hm
      refine lv_iload hx hb dL_below_13 (lv_at hl 4 rfl) ?_
      refine lv_aload_n hx hb dL_below_15 rfl (lv_at hl 1 rfl) ?_
      refine lv_iload hx hb dL_below_16 (lv_at hl 5 rfl) ?_
      obtain ⟨r18, e18, hm⟩ := bs hm
      try dsimp only at hm
      refine xa_ldO hx hb hK hP 0 0 rfl rfl e18 dL_below_18 ?_
      refine lv_iconst (v := 1) hx hb dL_below_19 (by decide) ?_
      refine lv_icmp_ne (tgt := 47) hx hb dL_below_20 (by decide) (fun c20 => ?_) (fun c20 => ?_)
      · rw [if_neg c20] at hm
        refine lv_iconst (v := 0) hx hb dL_below_47 (by decide) ?_
        refine lv_iadd hx hb dL_below_48 ?_
        refine lv_istore (lv' := [(4, .int (x4_6 + 0)), (0, .int x0_6), (1, .ref a_na), (2, .ref a_we), (3, .int x3_6), (5, .int x5_6)]) hx hb dL_below_49 hl (by decide) rfl (fun ls hl => ?_)
        refine lv_iinc (v := (x5_6 + 1)) (lv' := [(5, .int (x5_6 + 1)), (4, .int (x4_6 + 0)), (0, .int x0_6), (1, .ref a_na), (2, .ref a_we), (3, .int x3_6)]) hx hb dL_below_51 hl (k := 5) rfl rfl (by decide) rfl (fun ls hl => ?_)
        refine lv_goto (tgt := 6) hx hb dL_below_54 (by decide) ?_
        exact ih _ _ hm _ (lv_sub hl [2, 3, 4, 5, 1, 0] rfl)
      · rw [if_pos c20] at hm
        refine lv_iload_n hx hb dL_below_23 rfl (lv_at hl 0 rfl) ?_
        refine lv_iload hx hb dL_below_24 (lv_at hl 5 rfl) ?_
        obtain ⟨r26, e26, hm⟩ := bs hm
        try dsimp only at hm
        refine sp_callSz ⟨hx, hb, hml, hown, hts⟩ (kL_above l x0_6 x5_6 r26 e26) (va_cwS 2 hts gL_below_L_above rfl rfl rfl hdL_above.2 ⟨Nat.le_of_ble_eq_true rfl, Nat.le_of_ble_eq_true rfl⟩) rfl hl.1 rfl (Nat.le_of_ble_eq_true rfl) dL_below_26 ⟨Nat.zero_le _, Nat.zero_le _⟩ (fun hb26 => ?_)
        refine lv_if_eq (tgt := 47) hx hb dL_below_29 (by decide) (fun c29 => ?_) (fun c29 => ?_)
        · rw [if_pos c29] at hm
          refine lv_iconst (v := 0) hx hb dL_below_47 (by decide) ?_
          refine lv_iadd hx hb dL_below_48 ?_
          refine lv_istore (lv' := [(4, .int (x4_6 + 0)), (0, .int x0_6), (1, .ref a_na), (2, .ref a_we), (3, .int x3_6), (5, .int x5_6)]) hx hb dL_below_49 hl (by decide) rfl (fun ls hl => ?_)
          refine lv_iinc (v := (x5_6 + 1)) (lv' := [(5, .int (x5_6 + 1)), (4, .int (x4_6 + 0)), (0, .int x0_6), (1, .ref a_na), (2, .ref a_we), (3, .int x3_6)]) hx hb dL_below_51 hl (k := 5) rfl rfl (by decide) rfl (fun ls hl => ?_)
          refine lv_goto (tgt := 6) hx hb dL_below_54 (by decide) ?_
          exact ih _ _ hm _ (lv_sub hl [2, 3, 4, 5, 1, 0] rfl)
        · rw [if_neg c29] at hm
          refine lv_iload_n hx hb dL_below_32 rfl (lv_at hl 3 rfl) ?_
          refine lv_if_eq (tgt := 43) hx hb dL_below_33 (by decide) (fun c33 => ?_) (fun c33 => ?_)
          · rw [if_pos c33] at hm
            refine lv_iconst (v := 1) hx hb dL_below_43 (by decide) ?_
            refine lv_goto (tgt := 48) hx hb dL_below_44 (by decide) ?_
            refine lv_iadd hx hb dL_below_48 ?_
            refine lv_istore (lv' := [(4, .int (x4_6 + 1)), (0, .int x0_6), (1, .ref a_na), (2, .ref a_we), (3, .int x3_6), (5, .int x5_6)]) hx hb dL_below_49 hl (by decide) rfl (fun ls hl => ?_)
            refine lv_iinc (v := (x5_6 + 1)) (lv' := [(5, .int (x5_6 + 1)), (4, .int (x4_6 + 1)), (0, .int x0_6), (1, .ref a_na), (2, .ref a_we), (3, .int x3_6)]) hx hb dL_below_51 hl (k := 5) rfl rfl (by decide) rfl (fun ls hl => ?_)
            refine lv_goto (tgt := 6) hx hb dL_below_54 (by decide) ?_
            exact ih _ _ hm _ (lv_sub hl [2, 3, 4, 5, 1, 0] rfl)
          · rw [if_neg c33] at hm
            refine lv_aload_n hx hb dL_below_36 rfl (lv_at hl 2 rfl) ?_
            refine lv_iload hx hb dL_below_37 (lv_at hl 5 rfl) ?_
            obtain ⟨r39, e39, hm⟩ := bs hm
            try dsimp only at hm
            refine xa_ldO hx hb hK hP 1 0 rfl rfl e39 dL_below_39 ?_
            refine lv_goto (tgt := 48) hx hb dL_below_40 (by decide) ?_
            refine lv_iadd hx hb dL_below_48 ?_
            refine lv_istore (lv' := [(4, .int (x4_6 + r39)), (0, .int x0_6), (1, .ref a_na), (2, .ref a_we), (3, .int x3_6), (5, .int x5_6)]) hx hb dL_below_49 hl (by decide) rfl (fun ls hl => ?_)
            refine lv_iinc (v := (x5_6 + 1)) (lv' := [(5, .int (x5_6 + 1)), (4, .int (x4_6 + r39)), (0, .int x0_6), (1, .ref a_na), (2, .ref a_we), (3, .int x3_6)]) hx hb dL_below_51 hl (k := 5) rfl rfl (by decide) rfl (fun ls hl => ?_)
            refine lv_goto (tgt := 6) hx hb dL_below_54 (by decide) ?_
            exact ih _ _ hm _ (lv_sub hl [2, 3, 4, 5, 1, 0] rfl)
set_option maxHeartbeats 4000000 in
set_option maxRecDepth 100000 in
theorem kL_below (l : Launch) (dC : Nat → ClassId) (dI : Nat → Nat → Nat) (cA : ClassId) (a_na a_we : Nat) (f_na f_we : Nat → Int32) (p0 p3 r : Int32) (hm : (mL_below f_na f_we p0 p3) = some r) : Met l yL_below wsL_below rmL_below (rpc (dC, dI) [(cA, .int)] (wL_below cA a_na a_we f_na f_we) [.int p0, .ref a_na, .ref a_we, .int p3]) (vp_Si (fun x => x = r)) 0 0 (fun _ => False) := by
  unfold mL_below at hm
  refine ro_ofW (cc := cL_below) (maxL := 6) (ret := (some .int)) (own := RL) (by decide) rfl rfl (Nat.le_of_ble_eq_true rfl) ?_
  intro p e s m args below meth c hx hb hr hts hown hlocks hml hP hK ls hl
  have hl : lv_has ls 6 [(0, .int p0), (1, .ref a_na), (2, .ref a_we), (3, .int p3)] := hl
  have hP : va_P (dC, dI) vwCl [(a_na, .inl (cA, 15, .inl f_na)), (a_we, .inl (cA, 15, .inl f_we))] s.heap := hP
  refine lv_iconst (v := 0) hx hb dL_below_0 (by decide) ?_
  refine lv_istore (lv' := [(4, .int 0), (0, .int p0), (1, .ref a_na), (2, .ref a_we), (3, .int p3)]) hx hb dL_below_1 hl (by decide) rfl (fun ls hl => ?_)
  refine lv_iload_n hx hb dL_below_3 rfl (lv_at hl 1 rfl) ?_
  refine lv_istore (lv' := [(5, .int p0), (4, .int 0), (0, .int p0), (1, .ref a_na), (2, .ref a_we), (3, .int p3)]) hx hb dL_below_4 hl (by decide) rfl (fun ls hl => ?_)
  obtain ⟨⟨y4_6, y5_6⟩, e6, hm⟩ := bs hm
  try dsimp only at hm
  refine wL_below_L6 dC dI cA a_na a_we f_na f_we p0 p3 p0 p3 y4_6 y5_6 hx hb hml hown hts hK (hP.sub [0, 1] rfl) ?_ FU _ _ e6 _ (lv_sub hl [2, 3, 4, 5, 1, 0] rfl)
  · intro ls hl
    refine lv_iload hx hb dL_below_57 (lv_at hl 4 rfl) ?_
    cases hm
    exact ro_iret hx hb hr rfl rfl dL_below_59 hlocks
def mL_rank_L4 (f_na : Nat → Int32) (x0_4 : Int32) : Nat → (Int32) → (Int32) → Option (Int32 × Int32)
  | 0, _, _ => none
  | n + 1, x2_4, x3_4 =>
    (if 15 ≤ x3_4 then
      some (x2_4, x3_4)
    else
      ((rdA 15 f_na x3_4).bind fun r13 =>
      (if r13 = 1 then
        ((mL_before x3_4 x0_4).bind fun r20 =>
        mL_rank_L4 f_na x0_4 n (x2_4 + (if r20 = 0 then (0 : Int32) else 1)) (x3_4 + 1))
      else
        mL_rank_L4 f_na x0_4 n (x2_4 + 0) (x3_4 + 1))))
def mL_rank (f_na : Nat → Int32) (p0 : Int32) : Option (Int32) :=
  ((mL_rank_L4 f_na p0 FU 0 1).bind fun (y2_4, y3_4) =>
  some y2_4)
abbrev rmL_rank : Room := { frames := 2, cells := 0, slots := 0, locals := 46 }
abbrev wL_rank (cA : ClassId) (a_na : Nat) (f_na : Nat → Int32) : va_W := [(a_na, .inl (cA, 15, .inl f_na))]
theorem hdL_rank : yL_rank.cls = RL ∧ yL_rank.cls ≠ "java/lang/invoke/MethodHandle" ∧ yL_rank.cls ≠ "java/lang/invoke/VarHandle" ∧ (parseMethodDescriptor yL_rank.desc).map (fun d => d.parameters.length) = some 2 := by decide +kernel
set_option maxHeartbeats 4000000 in
set_option maxRecDepth 100000 in
theorem wL_rank_L4 {p : Program} {l : Launch} {e : Env} {s : State} {m : MethodId} {args : Array Value} {below : List Frame} {meth : Method} {c : Code} {Q : State → Prop} {H : Heap} (dC : Nat → ClassId) (dI : Nat → Nat → Nat) (cA : ClassId) (a_na : Nat) (f_na : Nat → Int32) (p0 x0_4 y2_4 y3_4 : Int32) (hx : p.tables.exec = Jvm.exec) (hb : c.code = cL_rank) (hml : c.maxLocals = 4) (hown : s.vm.findClass RL = some m.cls) (hts : ∀ w ∈ wsL_rank, w.before args s = true) (hK : va_K (dC, dI) vwCl [(cA, .int)] s) (hP : va_P (dC, dI) vwCl [(a_na, .inl (cA, 15, .inl f_na))] H)
    (kk0 : ∀ ls : Array Slot, lv_has ls 4 [(0, .int x0_4), (1, .ref a_na), (2, .int y2_4), (3, .int y3_4)] → W p l e (headSpec wsL_rank rmL_rank).room s m args below meth c H [] 0 0 Q (F0 m 39 ls [])) :
    ∀ (n : Nat) (x2_4 x3_4 : Int32), mL_rank_L4 f_na x0_4 n x2_4 x3_4 = some (y2_4, y3_4) → ∀ ls : Array Slot, lv_has ls 4 [(0, .int x0_4), (1, .ref a_na), (2, .int x2_4), (3, .int x3_4)] → W p l e (headSpec wsL_rank rmL_rank).room s m args below meth c H [] 0 0 Q (F0 m 4 ls []) := by
  intro n
  induction n with
  | zero =>
    intro x2_4 x3_4 hm
    cases hm
  | succ n ih =>
    intro x2_4 x3_4 hm ls hl
    rw [mL_rank_L4] at hm
    refine lv_iload_n hx hb dL_rank_4 rfl (lv_at hl 3 rfl) ?_
    refine lv_bipush (v := 15) hx hb dL_rank_5 (by decide) ?_
    refine lv_icmp_ge (tgt := 39) hx hb dL_rank_7 (by decide) (fun c7 => ?_) (fun c7 => ?_)
    · rw [if_pos c7] at hm
      cases hm
      exact kk0 _ (lv_sub hl [0, 1, 2, 3] rfl)
    · rw [if_neg c7] at hm
      refine lv_iload_n hx hb dL_rank_10 rfl (lv_at hl 2 rfl) ?_
      refine lv_aload_n hx hb dL_rank_11 rfl (lv_at hl 1 rfl) ?_
      refine lv_iload_n hx hb dL_rank_12 rfl (lv_at hl 3 rfl) ?_
      obtain ⟨r13, e13, hm⟩ := bs hm
      try dsimp only at hm
      refine xa_ldO hx hb hK hP 0 0 rfl rfl e13 dL_rank_13 ?_
      refine lv_iconst (v := 1) hx hb dL_rank_14 (by decide) ?_
      refine lv_icmp_ne (tgt := 30) hx hb dL_rank_15 (by decide) (fun c15 => ?_) (fun c15 => ?_)
      · rw [if_neg c15] at hm
        refine lv_iconst (v := 0) hx hb dL_rank_30 (by decide) ?_
        refine lv_iadd hx hb dL_rank_31 ?_
        refine lv_istore_n (lv' := [(2, .int (x2_4 + 0)), (0, .int x0_4), (1, .ref a_na), (3, .int x3_4)]) hx hb dL_rank_32 rfl hl (by decide) rfl (fun ls hl => ?_)
        refine lv_iinc (v := (x3_4 + 1)) (lv' := [(3, .int (x3_4 + 1)), (2, .int (x2_4 + 0)), (0, .int x0_4), (1, .ref a_na)]) hx hb dL_rank_33 hl (k := 3) rfl rfl (by decide) rfl (fun ls hl => ?_)
        refine lv_goto (tgt := 4) hx hb dL_rank_36 (by decide) ?_
        exact ih _ _ hm _ (lv_sub hl [2, 3, 1, 0] rfl)
      · rw [if_pos c15] at hm
        refine lv_iload_n hx hb dL_rank_18 rfl (lv_at hl 3 rfl) ?_
        refine lv_iload_n hx hb dL_rank_19 rfl (lv_at hl 0 rfl) ?_
        obtain ⟨r20, e20, hm⟩ := bs hm
        try dsimp only at hm
        refine sp_callSz ⟨hx, hb, hml, hown, hts⟩ (kL_before l x3_4 x0_4 r20 e20) (va_cwS 2 hts gL_rank_L_before rfl rfl rfl hdL_before.2 ⟨Nat.le_of_ble_eq_true rfl, Nat.le_of_ble_eq_true rfl⟩) rfl hl.1 rfl (Nat.le_of_ble_eq_true rfl) dL_rank_20 ⟨Nat.zero_le _, Nat.zero_le _⟩ (fun hb20 => ?_)
        refine lv_if_eq (tgt := 30) hx hb dL_rank_23 (by decide) (fun c23 => ?_) (fun c23 => ?_)
        · try simp only [if_pos c23] at hm
          refine lv_iconst (v := 0) hx hb dL_rank_30 (by decide) ?_
          refine lv_iadd hx hb dL_rank_31 ?_
          refine lv_istore_n (lv' := [(2, .int (x2_4 + 0)), (0, .int x0_4), (1, .ref a_na), (3, .int x3_4)]) hx hb dL_rank_32 rfl hl (by decide) rfl (fun ls hl => ?_)
          refine lv_iinc (v := (x3_4 + 1)) (lv' := [(3, .int (x3_4 + 1)), (2, .int (x2_4 + 0)), (0, .int x0_4), (1, .ref a_na)]) hx hb dL_rank_33 hl (k := 3) rfl rfl (by decide) rfl (fun ls hl => ?_)
          refine lv_goto (tgt := 4) hx hb dL_rank_36 (by decide) ?_
          exact ih _ _ hm _ (lv_sub hl [2, 3, 1, 0] rfl)
        · try simp only [if_neg c23] at hm
          refine lv_iconst (v := 1) hx hb dL_rank_26 (by decide) ?_
          refine lv_goto (tgt := 31) hx hb dL_rank_27 (by decide) ?_
          refine lv_iadd hx hb dL_rank_31 ?_
          refine lv_istore_n (lv' := [(2, .int (x2_4 + 1)), (0, .int x0_4), (1, .ref a_na), (3, .int x3_4)]) hx hb dL_rank_32 rfl hl (by decide) rfl (fun ls hl => ?_)
          refine lv_iinc (v := (x3_4 + 1)) (lv' := [(3, .int (x3_4 + 1)), (2, .int (x2_4 + 1)), (0, .int x0_4), (1, .ref a_na)]) hx hb dL_rank_33 hl (k := 3) rfl rfl (by decide) rfl (fun ls hl => ?_)
          refine lv_goto (tgt := 4) hx hb dL_rank_36 (by decide) ?_
          exact ih _ _ hm _ (lv_sub hl [2, 3, 1, 0] rfl)
set_option maxHeartbeats 4000000 in
set_option maxRecDepth 100000 in
theorem kL_rank (l : Launch) (dC : Nat → ClassId) (dI : Nat → Nat → Nat) (cA : ClassId) (a_na : Nat) (f_na : Nat → Int32) (p0 r : Int32) (hm : (mL_rank f_na p0) = some r) : Met l yL_rank wsL_rank rmL_rank (rpc (dC, dI) [(cA, .int)] (wL_rank cA a_na f_na) [.int p0, .ref a_na]) (vp_Si (fun x => x = r)) 0 0 (fun _ => False) := by
  unfold mL_rank at hm
  refine ro_ofW (cc := cL_rank) (maxL := 4) (ret := (some .int)) (own := RL) (by decide) rfl rfl (Nat.le_of_ble_eq_true rfl) ?_
  intro p e s m args below meth c hx hb hr hts hown hlocks hml hP hK ls hl
  have hl : lv_has ls 4 [(0, .int p0), (1, .ref a_na)] := hl
  have hP : va_P (dC, dI) vwCl [(a_na, .inl (cA, 15, .inl f_na))] s.heap := hP
  refine lv_iconst (v := 0) hx hb dL_rank_0 (by decide) ?_
  refine lv_istore_n (lv' := [(2, .int 0), (0, .int p0), (1, .ref a_na)]) hx hb dL_rank_1 rfl hl (by decide) rfl (fun ls hl => ?_)
  refine lv_iconst (v := 1) hx hb dL_rank_2 (by decide) ?_
  refine lv_istore_n (lv' := [(3, .int 1), (2, .int 0), (0, .int p0), (1, .ref a_na)]) hx hb dL_rank_3 rfl hl (by decide) rfl (fun ls hl => ?_)
  obtain ⟨⟨y2_4, y3_4⟩, e4, hm⟩ := bs hm
  try dsimp only at hm
  refine wL_rank_L4 dC dI cA a_na f_na p0 p0 y2_4 y3_4 hx hb hml hown hts hK (hP.sub [0] rfl) ?_ FU _ _ e4 _ (lv_sub hl [2, 3, 1, 0] rfl)
  · intro ls hl
    refine lv_iload_n hx hb dL_rank_39 rfl (lv_at hl 2 rfl) ?_
    cases hm
    exact ro_iret hx hb hr rfl rfl dL_rank_40 hlocks
def mL_index_L4 (f_ho : Nat → Int32) (x0_4 : Int32) : Nat → (Int32) → (Int32) → Option (Int32 × Int32)
  | 0, _, _ => none
  | n + 1, x2_4, x3_4 =>
    (if 15 ≤ x3_4 then
      some (x2_4, x3_4)
    else
      ((rdA 15 f_ho x3_4).bind fun r13 =>
      (if r13 = 1 then
        ((mL_before x3_4 x0_4).bind fun r20 =>
        mL_index_L4 f_ho x0_4 n (x2_4 + (if r20 = 0 then (0 : Int32) else 1)) (x3_4 + 1))
      else
        mL_index_L4 f_ho x0_4 n (x2_4 + 0) (x3_4 + 1))))
def mL_index (f_ho : Nat → Int32) (p0 : Int32) : Option (Int32) :=
  ((mL_index_L4 f_ho p0 FU 0 0).bind fun (y2_4, y3_4) =>
  ((rdA 15 f_ho p0).bind fun r41 =>
  some (if r41 = 1 then y2_4 else (-1))))
abbrev rmL_index : Room := { frames := 2, cells := 0, slots := 0, locals := 46 }
abbrev wL_index (cA : ClassId) (a_ho : Nat) (f_ho : Nat → Int32) : va_W := [(a_ho, .inl (cA, 15, .inl f_ho))]
theorem hdL_index : yL_index.cls = RL ∧ yL_index.cls ≠ "java/lang/invoke/MethodHandle" ∧ yL_index.cls ≠ "java/lang/invoke/VarHandle" ∧ (parseMethodDescriptor yL_index.desc).map (fun d => d.parameters.length) = some 2 := by decide +kernel
set_option maxHeartbeats 4000000 in
set_option maxRecDepth 100000 in
theorem wL_index_L4 {p : Program} {l : Launch} {e : Env} {s : State} {m : MethodId} {args : Array Value} {below : List Frame} {meth : Method} {c : Code} {Q : State → Prop} {H : Heap} (dC : Nat → ClassId) (dI : Nat → Nat → Nat) (cA : ClassId) (a_ho : Nat) (f_ho : Nat → Int32) (p0 x0_4 y2_4 y3_4 : Int32) (hx : p.tables.exec = Jvm.exec) (hb : c.code = cL_index) (hml : c.maxLocals = 4) (hown : s.vm.findClass RL = some m.cls) (hts : ∀ w ∈ wsL_index, w.before args s = true) (hK : va_K (dC, dI) vwCl [(cA, .int)] s) (hP : va_P (dC, dI) vwCl [(a_ho, .inl (cA, 15, .inl f_ho))] H)
    (kk0 : ∀ ls : Array Slot, lv_has ls 4 [(0, .int x0_4), (1, .ref a_ho), (2, .int y2_4), (3, .int y3_4)] → W p l e (headSpec wsL_index rmL_index).room s m args below meth c H [] 0 0 Q (F0 m 39 ls [])) :
    ∀ (n : Nat) (x2_4 x3_4 : Int32), mL_index_L4 f_ho x0_4 n x2_4 x3_4 = some (y2_4, y3_4) → ∀ ls : Array Slot, lv_has ls 4 [(0, .int x0_4), (1, .ref a_ho), (2, .int x2_4), (3, .int x3_4)] → W p l e (headSpec wsL_index rmL_index).room s m args below meth c H [] 0 0 Q (F0 m 4 ls []) := by
  intro n
  induction n with
  | zero =>
    intro x2_4 x3_4 hm
    cases hm
  | succ n ih =>
    intro x2_4 x3_4 hm ls hl
    rw [mL_index_L4] at hm
    refine lv_iload_n hx hb dL_index_4 rfl (lv_at hl 3 rfl) ?_
    refine lv_bipush (v := 15) hx hb dL_index_5 (by decide) ?_
    refine lv_icmp_ge (tgt := 39) hx hb dL_index_7 (by decide) (fun c7 => ?_) (fun c7 => ?_)
    · rw [if_pos c7] at hm
      cases hm
      exact kk0 _ (lv_sub hl [0, 1, 2, 3] rfl)
    · rw [if_neg c7] at hm
      refine lv_iload_n hx hb dL_index_10 rfl (lv_at hl 2 rfl) ?_
      refine lv_aload_n hx hb dL_index_11 rfl (lv_at hl 1 rfl) ?_
      refine lv_iload_n hx hb dL_index_12 rfl (lv_at hl 3 rfl) ?_
      obtain ⟨r13, e13, hm⟩ := bs hm
      try dsimp only at hm
      refine xa_ldO hx hb hK hP 0 0 rfl rfl e13 dL_index_13 ?_
      refine lv_iconst (v := 1) hx hb dL_index_14 (by decide) ?_
      refine lv_icmp_ne (tgt := 30) hx hb dL_index_15 (by decide) (fun c15 => ?_) (fun c15 => ?_)
      · rw [if_neg c15] at hm
        refine lv_iconst (v := 0) hx hb dL_index_30 (by decide) ?_
        refine lv_iadd hx hb dL_index_31 ?_
        refine lv_istore_n (lv' := [(2, .int (x2_4 + 0)), (0, .int x0_4), (1, .ref a_ho), (3, .int x3_4)]) hx hb dL_index_32 rfl hl (by decide) rfl (fun ls hl => ?_)
        refine lv_iinc (v := (x3_4 + 1)) (lv' := [(3, .int (x3_4 + 1)), (2, .int (x2_4 + 0)), (0, .int x0_4), (1, .ref a_ho)]) hx hb dL_index_33 hl (k := 3) rfl rfl (by decide) rfl (fun ls hl => ?_)
        refine lv_goto (tgt := 4) hx hb dL_index_36 (by decide) ?_
        exact ih _ _ hm _ (lv_sub hl [2, 3, 1, 0] rfl)
      · rw [if_pos c15] at hm
        refine lv_iload_n hx hb dL_index_18 rfl (lv_at hl 3 rfl) ?_
        refine lv_iload_n hx hb dL_index_19 rfl (lv_at hl 0 rfl) ?_
        obtain ⟨r20, e20, hm⟩ := bs hm
        try dsimp only at hm
        refine sp_callSz ⟨hx, hb, hml, hown, hts⟩ (kL_before l x3_4 x0_4 r20 e20) (va_cwS 2 hts gL_index_L_before rfl rfl rfl hdL_before.2 ⟨Nat.le_of_ble_eq_true rfl, Nat.le_of_ble_eq_true rfl⟩) rfl hl.1 rfl (Nat.le_of_ble_eq_true rfl) dL_index_20 ⟨Nat.zero_le _, Nat.zero_le _⟩ (fun hb20 => ?_)
        refine lv_if_eq (tgt := 30) hx hb dL_index_23 (by decide) (fun c23 => ?_) (fun c23 => ?_)
        · try simp only [if_pos c23] at hm
          refine lv_iconst (v := 0) hx hb dL_index_30 (by decide) ?_
          refine lv_iadd hx hb dL_index_31 ?_
          refine lv_istore_n (lv' := [(2, .int (x2_4 + 0)), (0, .int x0_4), (1, .ref a_ho), (3, .int x3_4)]) hx hb dL_index_32 rfl hl (by decide) rfl (fun ls hl => ?_)
          refine lv_iinc (v := (x3_4 + 1)) (lv' := [(3, .int (x3_4 + 1)), (2, .int (x2_4 + 0)), (0, .int x0_4), (1, .ref a_ho)]) hx hb dL_index_33 hl (k := 3) rfl rfl (by decide) rfl (fun ls hl => ?_)
          refine lv_goto (tgt := 4) hx hb dL_index_36 (by decide) ?_
          exact ih _ _ hm _ (lv_sub hl [2, 3, 1, 0] rfl)
        · try simp only [if_neg c23] at hm
          refine lv_iconst (v := 1) hx hb dL_index_26 (by decide) ?_
          refine lv_goto (tgt := 31) hx hb dL_index_27 (by decide) ?_
          refine lv_iadd hx hb dL_index_31 ?_
          refine lv_istore_n (lv' := [(2, .int (x2_4 + 1)), (0, .int x0_4), (1, .ref a_ho), (3, .int x3_4)]) hx hb dL_index_32 rfl hl (by decide) rfl (fun ls hl => ?_)
          refine lv_iinc (v := (x3_4 + 1)) (lv' := [(3, .int (x3_4 + 1)), (2, .int (x2_4 + 1)), (0, .int x0_4), (1, .ref a_ho)]) hx hb dL_index_33 hl (k := 3) rfl rfl (by decide) rfl (fun ls hl => ?_)
          refine lv_goto (tgt := 4) hx hb dL_index_36 (by decide) ?_
          exact ih _ _ hm _ (lv_sub hl [2, 3, 1, 0] rfl)
set_option maxHeartbeats 4000000 in
set_option maxRecDepth 100000 in
theorem kL_index (l : Launch) (dC : Nat → ClassId) (dI : Nat → Nat → Nat) (cA : ClassId) (a_ho : Nat) (f_ho : Nat → Int32) (p0 r : Int32) (hm : (mL_index f_ho p0) = some r) : Met l yL_index wsL_index rmL_index (rpc (dC, dI) [(cA, .int)] (wL_index cA a_ho f_ho) [.int p0, .ref a_ho]) (vp_Si (fun x => x = r)) 0 0 (fun _ => False) := by
  unfold mL_index at hm
  refine ro_ofW (cc := cL_index) (maxL := 4) (ret := (some .int)) (own := RL) (by decide) rfl rfl (Nat.le_of_ble_eq_true rfl) ?_
  intro p e s m args below meth c hx hb hr hts hown hlocks hml hP hK ls hl
  have hl : lv_has ls 4 [(0, .int p0), (1, .ref a_ho)] := hl
  have hP : va_P (dC, dI) vwCl [(a_ho, .inl (cA, 15, .inl f_ho))] s.heap := hP
  refine lv_iconst (v := 0) hx hb dL_index_0 (by decide) ?_
  refine lv_istore_n (lv' := [(2, .int 0), (0, .int p0), (1, .ref a_ho)]) hx hb dL_index_1 rfl hl (by decide) rfl (fun ls hl => ?_)
  refine lv_iconst (v := 0) hx hb dL_index_2 (by decide) ?_
  refine lv_istore_n (lv' := [(3, .int 0), (2, .int 0), (0, .int p0), (1, .ref a_ho)]) hx hb dL_index_3 rfl hl (by decide) rfl (fun ls hl => ?_)
  obtain ⟨⟨y2_4, y3_4⟩, e4, hm⟩ := bs hm
  try dsimp only at hm
  refine wL_index_L4 dC dI cA a_ho f_ho p0 p0 y2_4 y3_4 hx hb hml hown hts hK (hP.sub [0] rfl) ?_ FU _ _ e4 _ (lv_sub hl [2, 3, 1, 0] rfl)
  · intro ls hl
    refine lv_aload_n hx hb dL_index_39 rfl (lv_at hl 1 rfl) ?_
    refine lv_iload_n hx hb dL_index_40 rfl (lv_at hl 0 rfl) ?_
    obtain ⟨r41, e41, hm⟩ := bs hm
    try dsimp only at hm
    refine xa_ldO hx hb hK hP 0 0 rfl rfl e41 dL_index_41 ?_
    refine lv_iconst (v := 1) hx hb dL_index_42 (by decide) ?_
    refine lv_icmp_ne (tgt := 50) hx hb dL_index_43 (by decide) (fun c43 => ?_) (fun c43 => ?_)
    · try simp only [if_neg c43] at hm
      refine lv_iconst (v := (-1)) hx hb dL_index_50 (by decide) ?_
      cases hm
      exact ro_iret hx hb hr rfl rfl dL_index_51 hlocks
    · try simp only [if_pos c43] at hm
      refine lv_iload_n hx hb dL_index_46 rfl (lv_at hl 2 rfl) ?_
      refine lv_goto (tgt := 51) hx hb dL_index_47 (by decide) ?_
      cases hm
      exact ro_iret hx hb hr rfl rfl dL_index_51 hlocks
def mL_cost_L5 (f_na : Nat → Int32) (f_we : Nat → Int32) (f_ho : Nat → Int32) : Nat → (Int32) → (Int32) → Option (Int32 × Int32)
  | 0, _, _ => none
  | n + 1, x3_5, x4_5 =>
    (if 15 ≤ x4_5 then
      some (x3_5, x4_5)
    else
      ((rdA 15 f_na x4_5).bind fun r16 =>
      (if r16 = 1 then
        ((rdA 15 f_we x4_5).bind fun r24 =>
        ((mL_roads f_ho x4_5).bind fun r28 =>
        mL_cost_L5 f_na f_we f_ho n (x3_5 + (r24 * r28)) (x4_5 + 1)))
      else
        mL_cost_L5 f_na f_we f_ho n (x3_5 + 0) (x4_5 + 1))))
def mL_cost (f_na : Nat → Int32) (f_we : Nat → Int32) (f_ho : Nat → Int32) : Option (Int32) :=
  ((mL_cost_L5 f_na f_we f_ho FU 0 1).bind fun (y3_5, y4_5) =>
  some y3_5)
abbrev rmL_cost : Room := { frames := 1, cells := 0, slots := 0, locals := 23 }
abbrev wL_cost (cA : ClassId) (a_na a_we a_ho : Nat) (f_na f_we f_ho : Nat → Int32) : va_W := [(a_na, .inl (cA, 15, .inl f_na)), (a_we, .inl (cA, 15, .inl f_we)), (a_ho, .inl (cA, 15, .inl f_ho))]
theorem hdL_cost : yL_cost.cls = RL ∧ yL_cost.cls ≠ "java/lang/invoke/MethodHandle" ∧ yL_cost.cls ≠ "java/lang/invoke/VarHandle" ∧ (parseMethodDescriptor yL_cost.desc).map (fun d => d.parameters.length) = some 3 := by decide +kernel
set_option maxHeartbeats 4000000 in
set_option maxRecDepth 100000 in
theorem wL_cost_L5 {p : Program} {l : Launch} {e : Env} {s : State} {m : MethodId} {args : Array Value} {below : List Frame} {meth : Method} {c : Code} {Q : State → Prop} {H : Heap} (dC : Nat → ClassId) (dI : Nat → Nat → Nat) (cA : ClassId) (a_na a_we a_ho : Nat) (f_na f_we f_ho : Nat → Int32) (y3_5 y4_5 : Int32) (hx : p.tables.exec = Jvm.exec) (hb : c.code = cL_cost) (hml : c.maxLocals = 5) (hown : s.vm.findClass RL = some m.cls) (hts : ∀ w ∈ wsL_cost, w.before args s = true) (hK : va_K (dC, dI) vwCl [(cA, .int)] s) (hP : va_P (dC, dI) vwCl [(a_na, .inl (cA, 15, .inl f_na)), (a_we, .inl (cA, 15, .inl f_we)), (a_ho, .inl (cA, 15, .inl f_ho))] H)
    (kk0 : ∀ ls : Array Slot, lv_has ls 5 [(0, .ref a_na), (1, .ref a_we), (2, .ref a_ho), (3, .int y3_5), (4, .int y4_5)] → W p l e (headSpec wsL_cost rmL_cost).room s m args below meth c H [] 0 0 Q (F0 m 44 ls [])) :
    ∀ (n : Nat) (x3_5 x4_5 : Int32), mL_cost_L5 f_na f_we f_ho n x3_5 x4_5 = some (y3_5, y4_5) → ∀ ls : Array Slot, lv_has ls 5 [(0, .ref a_na), (1, .ref a_we), (2, .ref a_ho), (3, .int x3_5), (4, .int x4_5)] → W p l e (headSpec wsL_cost rmL_cost).room s m args below meth c H [] 0 0 Q (F0 m 5 ls []) := by
  intro n
  induction n with
  | zero =>
    intro x3_5 x4_5 hm
    cases hm
  | succ n ih =>
    intro x3_5 x4_5 hm ls hl
    rw [mL_cost_L5] at hm
    refine lv_iload hx hb dL_cost_5 (lv_at hl 4 rfl) ?_
    refine lv_bipush (v := 15) hx hb dL_cost_7 (by decide) ?_
    refine lv_icmp_ge (tgt := 44) hx hb dL_cost_9 (by decide) (fun c9 => ?_) (fun c9 => ?_)
    · rw [if_pos c9] at hm
      cases hm
      exact kk0 _ (lv_sub hl [0, 1, 2, 3, 4] rfl)
    · rw [if_neg c9] at hm
      refine lv_iload_n hx hb dL_cost_12 rfl (lv_at hl 3 rfl) ?_
      refine lv_aload_n hx hb dL_cost_13 rfl (lv_at hl 0 rfl) ?_
      refine lv_iload hx hb dL_cost_14 (lv_at hl 4 rfl) ?_
      obtain ⟨r16, e16, hm⟩ := bs hm
      try dsimp only at hm
      refine xa_ldO hx hb hK hP 0 0 rfl rfl e16 dL_cost_16 ?_
      refine lv_iconst (v := 1) hx hb dL_cost_17 (by decide) ?_
      refine lv_icmp_ne (tgt := 35) hx hb dL_cost_18 (by decide) (fun c18 => ?_) (fun c18 => ?_)
      · rw [if_neg c18] at hm
        refine lv_iconst (v := 0) hx hb dL_cost_35 (by decide) ?_
        refine lv_iadd hx hb dL_cost_36 ?_
        refine lv_istore_n (lv' := [(3, .int (x3_5 + 0)), (0, .ref a_na), (1, .ref a_we), (2, .ref a_ho), (4, .int x4_5)]) hx hb dL_cost_37 rfl hl (by decide) rfl (fun ls hl => ?_)
        refine lv_iinc (v := (x4_5 + 1)) (lv' := [(4, .int (x4_5 + 1)), (3, .int (x3_5 + 0)), (0, .ref a_na), (1, .ref a_we), (2, .ref a_ho)]) hx hb dL_cost_38 hl (k := 4) rfl rfl (by decide) rfl (fun ls hl => ?_)
        refine lv_goto (tgt := 5) hx hb dL_cost_41 (by decide) ?_
        exact ih _ _ hm _ (lv_sub hl [2, 3, 4, 1, 0] rfl)
      · rw [if_pos c18] at hm
        refine lv_aload_n hx hb dL_cost_21 rfl (lv_at hl 1 rfl) ?_
        refine lv_iload hx hb dL_cost_22 (lv_at hl 4 rfl) ?_
        obtain ⟨r24, e24, hm⟩ := bs hm
        try dsimp only at hm
        refine xa_ldO hx hb hK hP 1 0 rfl rfl e24 dL_cost_24 ?_
        refine lv_iload hx hb dL_cost_25 (lv_at hl 4 rfl) ?_
        refine lv_aload_n hx hb dL_cost_27 rfl (lv_at hl 2 rfl) ?_
        obtain ⟨r28, e28, hm⟩ := bs hm
        try dsimp only at hm
        refine ro_callSe ⟨hx, hb, hml, hown, hts⟩ (kL_roads l dC dI cA a_ho f_ho x4_5 r28 e28) (va_cwS 2 hts gL_cost_L_roads rfl rfl rfl hdL_roads.2 ⟨Nat.le_of_ble_eq_true rfl, Nat.le_of_ble_eq_true rfl⟩) (hP.sub [2] rfl) hK rfl hl.1 rfl (Nat.le_of_ble_eq_true rfl) dL_cost_28 ⟨Nat.zero_le _, Nat.zero_le _⟩ ?_
        refine lv_imul hx hb dL_cost_31 ?_
        refine lv_goto (tgt := 36) hx hb dL_cost_32 (by decide) ?_
        refine lv_iadd hx hb dL_cost_36 ?_
        refine lv_istore_n (lv' := [(3, .int (x3_5 + (r24 * r28))), (0, .ref a_na), (1, .ref a_we), (2, .ref a_ho), (4, .int x4_5)]) hx hb dL_cost_37 rfl hl (by decide) rfl (fun ls hl => ?_)
        refine lv_iinc (v := (x4_5 + 1)) (lv' := [(4, .int (x4_5 + 1)), (3, .int (x3_5 + (r24 * r28))), (0, .ref a_na), (1, .ref a_we), (2, .ref a_ho)]) hx hb dL_cost_38 hl (k := 4) rfl rfl (by decide) rfl (fun ls hl => ?_)
        refine lv_goto (tgt := 5) hx hb dL_cost_41 (by decide) ?_
        exact ih _ _ hm _ (lv_sub hl [2, 3, 4, 1, 0] rfl)
set_option maxHeartbeats 4000000 in
set_option maxRecDepth 100000 in
theorem kL_cost (l : Launch) (dC : Nat → ClassId) (dI : Nat → Nat → Nat) (cA : ClassId) (a_na a_we a_ho : Nat) (f_na f_we f_ho : Nat → Int32) (r : Int32) (hm : (mL_cost f_na f_we f_ho) = some r) : Met l yL_cost wsL_cost rmL_cost (rpc (dC, dI) [(cA, .int)] (wL_cost cA a_na a_we a_ho f_na f_we f_ho) [.ref a_na, .ref a_we, .ref a_ho]) (vp_Si (fun x => x = r)) 0 0 (fun _ => False) := by
  unfold mL_cost at hm
  refine ro_ofW (cc := cL_cost) (maxL := 5) (ret := (some .int)) (own := RL) (by decide) rfl rfl (Nat.le_of_ble_eq_true rfl) ?_
  intro p e s m args below meth c hx hb hr hts hown hlocks hml hP hK ls hl
  have hl : lv_has ls 5 [(0, .ref a_na), (1, .ref a_we), (2, .ref a_ho)] := hl
  have hP : va_P (dC, dI) vwCl [(a_na, .inl (cA, 15, .inl f_na)), (a_we, .inl (cA, 15, .inl f_we)), (a_ho, .inl (cA, 15, .inl f_ho))] s.heap := hP
  refine lv_iconst (v := 0) hx hb dL_cost_0 (by decide) ?_
  refine lv_istore_n (lv' := [(3, .int 0), (0, .ref a_na), (1, .ref a_we), (2, .ref a_ho)]) hx hb dL_cost_1 rfl hl (by decide) rfl (fun ls hl => ?_)
  refine lv_iconst (v := 1) hx hb dL_cost_2 (by decide) ?_
  refine lv_istore (lv' := [(4, .int 1), (3, .int 0), (0, .ref a_na), (1, .ref a_we), (2, .ref a_ho)]) hx hb dL_cost_3 hl (by decide) rfl (fun ls hl => ?_)
  obtain ⟨⟨y3_5, y4_5⟩, e5, hm⟩ := bs hm
  try dsimp only at hm
  refine wL_cost_L5 dC dI cA a_na a_we a_ho f_na f_we f_ho  y3_5 y4_5 hx hb hml hown hts hK (hP.sub [0, 1, 2] rfl) ?_ FU _ _ e5 _ (lv_sub hl [2, 3, 4, 1, 0] rfl)
  · intro ls hl
    refine lv_iload_n hx hb dL_cost_44 rfl (lv_at hl 3 rfl) ?_
    cases hm
    exact ro_iret hx hb hr rfl rfl dL_cost_45 hlocks
def mL_between_L5 (f_ho : Nat → Int32) (x0_5 : Int32) (x1_5 : Int32) : Nat → (Int32) → (Int32) → Option (Int32 × Int32)
  | 0, _, _ => none
  | n + 1, x3_5, x4_5 =>
    (if 15 ≤ x4_5 then
      some (x3_5, x4_5)
    else
      ((rdA 15 f_ho x4_5).bind fun r16 =>
      (if r16 = 1 then
        ((mL_above x4_5 x0_5).bind fun r24 =>
        (if r24 = 0 then
          mL_between_L5 f_ho x0_5 x1_5 n (x3_5 + 0) (x4_5 + 1)
        else
          ((mL_above x4_5 x1_5).bind fun r33 =>
          mL_between_L5 f_ho x0_5 x1_5 n (x3_5 + (if r33 = 0 then (0 : Int32) else 1)) (x4_5 + 1))))
      else
        mL_between_L5 f_ho x0_5 x1_5 n (x3_5 + 0) (x4_5 + 1))))
def mL_between (f_ho : Nat → Int32) (p0 : Int32) (p1 : Int32) : Option (Int32) :=
  ((mL_between_L5 f_ho p0 p1 FU 0 1).bind fun (y3_5, y4_5) =>
  ((mL_roads f_ho p0).bind fun r54 =>
  ((mL_roads f_ho p1).bind fun r59 =>
  some ((r54 + r59) - (2 * y3_5)))))
abbrev rmL_between : Room := { frames := 1, cells := 0, slots := 0, locals := 23 }
abbrev wL_between (cA : ClassId) (a_ho : Nat) (f_ho : Nat → Int32) : va_W := [(a_ho, .inl (cA, 15, .inl f_ho))]
theorem hdL_between : yL_between.cls = RL ∧ yL_between.cls ≠ "java/lang/invoke/MethodHandle" ∧ yL_between.cls ≠ "java/lang/invoke/VarHandle" ∧ (parseMethodDescriptor yL_between.desc).map (fun d => d.parameters.length) = some 3 := by decide +kernel
set_option maxHeartbeats 4000000 in
set_option maxRecDepth 100000 in
theorem wL_between_L5 {p : Program} {l : Launch} {e : Env} {s : State} {m : MethodId} {args : Array Value} {below : List Frame} {meth : Method} {c : Code} {Q : State → Prop} {H : Heap} (dC : Nat → ClassId) (dI : Nat → Nat → Nat) (cA : ClassId) (a_ho : Nat) (f_ho : Nat → Int32) (p0 p1 x0_5 x1_5 y3_5 y4_5 : Int32) (hx : p.tables.exec = Jvm.exec) (hb : c.code = cL_between) (hml : c.maxLocals = 5) (hown : s.vm.findClass RL = some m.cls) (hts : ∀ w ∈ wsL_between, w.before args s = true) (hK : va_K (dC, dI) vwCl [(cA, .int)] s) (hP : va_P (dC, dI) vwCl [(a_ho, .inl (cA, 15, .inl f_ho))] H)
    (kk0 : ∀ ls : Array Slot, lv_has ls 5 [(0, .int x0_5), (1, .int x1_5), (2, .ref a_ho), (3, .int y3_5), (4, .int y4_5)] → W p l e (headSpec wsL_between rmL_between).room s m args below meth c H [] 0 0 Q (F0 m 52 ls [])) :
    ∀ (n : Nat) (x3_5 x4_5 : Int32), mL_between_L5 f_ho x0_5 x1_5 n x3_5 x4_5 = some (y3_5, y4_5) → ∀ ls : Array Slot, lv_has ls 5 [(0, .int x0_5), (1, .int x1_5), (2, .ref a_ho), (3, .int x3_5), (4, .int x4_5)] → W p l e (headSpec wsL_between rmL_between).room s m args below meth c H [] 0 0 Q (F0 m 5 ls []) := by
  intro n
  induction n with
  | zero =>
    intro x3_5 x4_5 hm
    cases hm
  | succ n ih =>
    intro x3_5 x4_5 hm ls hl
    rw [mL_between_L5] at hm
    refine lv_iload hx hb dL_between_5 (lv_at hl 4 rfl) ?_
    refine lv_bipush (v := 15) hx hb dL_between_7 (by decide) ?_
    refine lv_icmp_ge (tgt := 52) hx hb dL_between_9 (by decide) (fun c9 => ?_) (fun c9 => ?_)
    · rw [if_pos c9] at hm
      cases hm
      exact kk0 _ (lv_sub hl [0, 1, 2, 3, 4] rfl)
    · rw [if_neg c9] at hm
      refine lv_iload_n hx hb dL_between_12 rfl (lv_at hl 3 rfl) ?_
      refine lv_aload_n hx hb dL_between_13 rfl (lv_at hl 2 rfl) ?_
      refine lv_iload hx hb dL_between_14 (lv_at hl 4 rfl) ?_
      obtain ⟨r16, e16, hm⟩ := bs hm
      try dsimp only at hm
      refine xa_ldO hx hb hK hP 0 0 rfl rfl e16 dL_between_16 ?_
      refine lv_iconst (v := 1) hx hb dL_between_17 (by decide) ?_
      refine lv_icmp_ne (tgt := 43) hx hb dL_between_18 (by decide) (fun c18 => ?_) (fun c18 => ?_)
      · rw [if_neg c18] at hm
        refine lv_iconst (v := 0) hx hb dL_between_43 (by decide) ?_
        refine lv_iadd hx hb dL_between_44 ?_
        refine lv_istore_n (lv' := [(3, .int (x3_5 + 0)), (0, .int x0_5), (1, .int x1_5), (2, .ref a_ho), (4, .int x4_5)]) hx hb dL_between_45 rfl hl (by decide) rfl (fun ls hl => ?_)
        refine lv_iinc (v := (x4_5 + 1)) (lv' := [(4, .int (x4_5 + 1)), (3, .int (x3_5 + 0)), (0, .int x0_5), (1, .int x1_5), (2, .ref a_ho)]) hx hb dL_between_46 hl (k := 4) rfl rfl (by decide) rfl (fun ls hl => ?_)
        refine lv_goto (tgt := 5) hx hb dL_between_49 (by decide) ?_
        exact ih _ _ hm _ (lv_sub hl [2, 3, 4, 1, 0] rfl)
      · rw [if_pos c18] at hm
        refine lv_iload hx hb dL_between_21 (lv_at hl 4 rfl) ?_
        refine lv_iload_n hx hb dL_between_23 rfl (lv_at hl 0 rfl) ?_
        obtain ⟨r24, e24, hm⟩ := bs hm
        try dsimp only at hm
        refine sp_callSz ⟨hx, hb, hml, hown, hts⟩ (kL_above l x4_5 x0_5 r24 e24) (va_cwS 2 hts gL_between_L_above rfl rfl rfl hdL_above.2 ⟨Nat.le_of_ble_eq_true rfl, Nat.le_of_ble_eq_true rfl⟩) rfl hl.1 rfl (Nat.le_of_ble_eq_true rfl) dL_between_24 ⟨Nat.zero_le _, Nat.zero_le _⟩ (fun hb24 => ?_)
        refine lv_if_eq (tgt := 43) hx hb dL_between_27 (by decide) (fun c27 => ?_) (fun c27 => ?_)
        · rw [if_pos c27] at hm
          refine lv_iconst (v := 0) hx hb dL_between_43 (by decide) ?_
          refine lv_iadd hx hb dL_between_44 ?_
          refine lv_istore_n (lv' := [(3, .int (x3_5 + 0)), (0, .int x0_5), (1, .int x1_5), (2, .ref a_ho), (4, .int x4_5)]) hx hb dL_between_45 rfl hl (by decide) rfl (fun ls hl => ?_)
          refine lv_iinc (v := (x4_5 + 1)) (lv' := [(4, .int (x4_5 + 1)), (3, .int (x3_5 + 0)), (0, .int x0_5), (1, .int x1_5), (2, .ref a_ho)]) hx hb dL_between_46 hl (k := 4) rfl rfl (by decide) rfl (fun ls hl => ?_)
          refine lv_goto (tgt := 5) hx hb dL_between_49 (by decide) ?_
          exact ih _ _ hm _ (lv_sub hl [2, 3, 4, 1, 0] rfl)
        · rw [if_neg c27] at hm
          refine lv_iload hx hb dL_between_30 (lv_at hl 4 rfl) ?_
          refine lv_iload_n hx hb dL_between_32 rfl (lv_at hl 1 rfl) ?_
          obtain ⟨r33, e33, hm⟩ := bs hm
          try dsimp only at hm
          refine sp_callSz ⟨hx, hb, hml, hown, hts⟩ (kL_above l x4_5 x1_5 r33 e33) (va_cwS 2 hts gL_between_L_above rfl rfl rfl hdL_above.2 ⟨Nat.le_of_ble_eq_true rfl, Nat.le_of_ble_eq_true rfl⟩) rfl hl.1 rfl (Nat.le_of_ble_eq_true rfl) dL_between_33 ⟨Nat.zero_le _, Nat.zero_le _⟩ (fun hb33 => ?_)
          refine lv_if_eq (tgt := 43) hx hb dL_between_36 (by decide) (fun c36 => ?_) (fun c36 => ?_)
          · try simp only [if_pos c36] at hm
            refine lv_iconst (v := 0) hx hb dL_between_43 (by decide) ?_
            refine lv_iadd hx hb dL_between_44 ?_
            refine lv_istore_n (lv' := [(3, .int (x3_5 + 0)), (0, .int x0_5), (1, .int x1_5), (2, .ref a_ho), (4, .int x4_5)]) hx hb dL_between_45 rfl hl (by decide) rfl (fun ls hl => ?_)
            refine lv_iinc (v := (x4_5 + 1)) (lv' := [(4, .int (x4_5 + 1)), (3, .int (x3_5 + 0)), (0, .int x0_5), (1, .int x1_5), (2, .ref a_ho)]) hx hb dL_between_46 hl (k := 4) rfl rfl (by decide) rfl (fun ls hl => ?_)
            refine lv_goto (tgt := 5) hx hb dL_between_49 (by decide) ?_
            exact ih _ _ hm _ (lv_sub hl [2, 3, 4, 1, 0] rfl)
          · try simp only [if_neg c36] at hm
            refine lv_iconst (v := 1) hx hb dL_between_39 (by decide) ?_
            refine lv_goto (tgt := 44) hx hb dL_between_40 (by decide) ?_
            refine lv_iadd hx hb dL_between_44 ?_
            refine lv_istore_n (lv' := [(3, .int (x3_5 + 1)), (0, .int x0_5), (1, .int x1_5), (2, .ref a_ho), (4, .int x4_5)]) hx hb dL_between_45 rfl hl (by decide) rfl (fun ls hl => ?_)
            refine lv_iinc (v := (x4_5 + 1)) (lv' := [(4, .int (x4_5 + 1)), (3, .int (x3_5 + 1)), (0, .int x0_5), (1, .int x1_5), (2, .ref a_ho)]) hx hb dL_between_46 hl (k := 4) rfl rfl (by decide) rfl (fun ls hl => ?_)
            refine lv_goto (tgt := 5) hx hb dL_between_49 (by decide) ?_
            exact ih _ _ hm _ (lv_sub hl [2, 3, 4, 1, 0] rfl)
set_option maxHeartbeats 4000000 in
set_option maxRecDepth 100000 in
theorem kL_between (l : Launch) (dC : Nat → ClassId) (dI : Nat → Nat → Nat) (cA : ClassId) (a_ho : Nat) (f_ho : Nat → Int32) (p0 p1 r : Int32) (hm : (mL_between f_ho p0 p1) = some r) : Met l yL_between wsL_between rmL_between (rpc (dC, dI) [(cA, .int)] (wL_between cA a_ho f_ho) [.int p0, .int p1, .ref a_ho]) (vp_Si (fun x => x = r)) 0 0 (fun _ => False) := by
  unfold mL_between at hm
  refine ro_ofW (cc := cL_between) (maxL := 5) (ret := (some .int)) (own := RL) (by decide) rfl rfl (Nat.le_of_ble_eq_true rfl) ?_
  intro p e s m args below meth c hx hb hr hts hown hlocks hml hP hK ls hl
  have hl : lv_has ls 5 [(0, .int p0), (1, .int p1), (2, .ref a_ho)] := hl
  have hP : va_P (dC, dI) vwCl [(a_ho, .inl (cA, 15, .inl f_ho))] s.heap := hP
  refine lv_iconst (v := 0) hx hb dL_between_0 (by decide) ?_
  refine lv_istore_n (lv' := [(3, .int 0), (0, .int p0), (1, .int p1), (2, .ref a_ho)]) hx hb dL_between_1 rfl hl (by decide) rfl (fun ls hl => ?_)
  refine lv_iconst (v := 1) hx hb dL_between_2 (by decide) ?_
  refine lv_istore (lv' := [(4, .int 1), (3, .int 0), (0, .int p0), (1, .int p1), (2, .ref a_ho)]) hx hb dL_between_3 hl (by decide) rfl (fun ls hl => ?_)
  obtain ⟨⟨y3_5, y4_5⟩, e5, hm⟩ := bs hm
  try dsimp only at hm
  refine wL_between_L5 dC dI cA a_ho f_ho p0 p1 p0 p1 y3_5 y4_5 hx hb hml hown hts hK (hP.sub [0] rfl) ?_ FU _ _ e5 _ (lv_sub hl [2, 3, 4, 1, 0] rfl)
  · intro ls hl
    refine lv_iload_n hx hb dL_between_52 rfl (lv_at hl 0 rfl) ?_
    refine lv_aload_n hx hb dL_between_53 rfl (lv_at hl 2 rfl) ?_
    obtain ⟨r54, e54, hm⟩ := bs hm
    try dsimp only at hm
    refine ro_callSe ⟨hx, hb, hml, hown, hts⟩ (kL_roads l dC dI cA a_ho f_ho p0 r54 e54) (va_cwS 2 hts gL_between_L_roads rfl rfl rfl hdL_roads.2 ⟨Nat.le_of_ble_eq_true rfl, Nat.le_of_ble_eq_true rfl⟩) (hP.sub [0] rfl) hK rfl hl.1 rfl (Nat.le_of_ble_eq_true rfl) dL_between_54 ⟨Nat.zero_le _, Nat.zero_le _⟩ ?_
    refine lv_iload_n hx hb dL_between_57 rfl (lv_at hl 1 rfl) ?_
    refine lv_aload_n hx hb dL_between_58 rfl (lv_at hl 2 rfl) ?_
    obtain ⟨r59, e59, hm⟩ := bs hm
    try dsimp only at hm
    refine ro_callSe ⟨hx, hb, hml, hown, hts⟩ (kL_roads l dC dI cA a_ho f_ho p1 r59 e59) (va_cwS 2 hts gL_between_L_roads rfl rfl rfl hdL_roads.2 ⟨Nat.le_of_ble_eq_true rfl, Nat.le_of_ble_eq_true rfl⟩) (hP.sub [0] rfl) hK rfl hl.1 rfl (Nat.le_of_ble_eq_true rfl) dL_between_59 ⟨Nat.zero_le _, Nat.zero_le _⟩ ?_
    refine lv_iadd hx hb dL_between_62 ?_
    refine lv_iconst (v := 2) hx hb dL_between_63 (by decide) ?_
    refine lv_iload_n hx hb dL_between_64 rfl (lv_at hl 3 rfl) ?_
    refine lv_imul hx hb dL_between_65 ?_
    refine lv_isub hx hb dL_between_66 ?_
    cases hm
    exact ro_iret hx hb hr rfl rfl dL_between_67 hlocks
def mL_adds_L3 (f_na_L3 : Nat → Int32) : Nat → (Int32) → Option (Int32)
  | 0, _ => none
  | n + 1, x6_3 =>
    ((mL_inTown f_na_L3 x6_3).bind fun r6 =>
    (if r6 = 0 then
      mL_adds_L3 f_na_L3 n ((x6_3 - 1) / 2)
    else
      some x6_3))
def mL_adds_L47 (x6_47 : Int32) : Nat → (Int32) → (Nat → Int32) → (Nat → Int32) → Option (Int32 × (Nat → Int32) × (Nat → Int32))
  | 0, _, _, _ => none
  | n + 1, x7_47, f_q_L47, f_ho_L47 =>
    (if x7_47 ≤ x6_47 then
      some (x7_47, f_q_L47, f_ho_L47)
    else
      ((wrA 15 f_ho_L47 x7_47 1).bind fun f_ho_59 =>
      mL_adds_L47 x6_47 n ((x7_47 - 1) / 2) (upd f_q_L47 3 ((f_q_L47 3) + 1)) f_ho_59))
def mL_adds (f_q : Nat → Int32) (f_na : Nat → Int32) (f_we : Nat → Int32) (f_ho : Nat → Int32) (p0 : Int32) (p1 : Int32) : Option (Int32 × (Nat → Int32) × (Nat → Int32) × (Nat → Int32) × (Nat → Int32)) :=
  ((mL_adds_L3 f_na FU p0).bind fun y6_3 =>
  ((rdA 15 f_ho y6_3).bind fun r27 =>
  (if r27 = 0 then
    ((wrA 15 f_ho y6_3 1).bind fun f_ho_36 =>
    ((mL_adds_L47 y6_3 FU p0 (upd f_q 2 ((f_q 2) + 1)) f_ho_36).bind fun (y7_47, f_q_E47, f_ho_E47) =>
    ((wrA 15 f_na p0 1).bind fun f_na_81 =>
    ((wrA 15 f_we p0 p1).bind fun f_we_86 =>
    ((mL_rank f_na_81 p0).bind fun r89 =>
    some (r89, f_q_E47, f_na_81, f_we_86, f_ho_E47))))))
  else
    ((mL_adds_L47 y6_3 FU p0 f_q f_ho).bind fun (y7_47, f_q_E47, f_ho_E47) =>
    ((wrA 15 f_na p0 1).bind fun f_na_81 =>
    ((wrA 15 f_we p0 p1).bind fun f_we_86 =>
    ((mL_rank f_na_81 p0).bind fun r89 =>
    some (r89, f_q_E47, f_na_81, f_we_86, f_ho_E47))))))))
abbrev rmL_adds : Room := { frames := 3, cells := 0, slots := 0, locals := 69 }
abbrev wL_adds (cA : ClassId) (a_q a_na a_we a_ho : Nat) (f_q f_na f_we f_ho : Nat → Int32) : va_W := [(a_q, .inl (cA, 5, .inl f_q)), (a_na, .inl (cA, 15, .inl f_na)), (a_we, .inl (cA, 15, .inl f_we)), (a_ho, .inl (cA, 15, .inl f_ho))]
theorem hdL_adds : yL_adds.cls = RL ∧ yL_adds.cls ≠ "java/lang/invoke/MethodHandle" ∧ yL_adds.cls ≠ "java/lang/invoke/VarHandle" ∧ (parseMethodDescriptor yL_adds.desc).map (fun d => d.parameters.length) = some 6 := by decide +kernel
set_option maxHeartbeats 4000000 in
set_option maxRecDepth 100000 in
theorem wL_adds_L3 {p : Program} {l : Launch} {e : Env} {s : State} {m : MethodId} {args : Array Value} {below : List Frame} {meth : Method} {c : Code} {Q : State → Prop} {A : Nat → Prop} (dC : Nat → ClassId) (dI : Nat → Nat → Nat) (cA : ClassId) (a_q a_na a_we a_ho : Nat) (p0 p1 x0_3 x1_3 : Int32) (f_q_L3 f_na_L3 f_we_L3 f_ho_L3 : Nat → Int32) (y6_3 : Int32) (hx : p.tables.exec = Jvm.exec) (hb : c.code = cL_adds) (hml : c.maxLocals = 8) (hown : s.vm.findClass RL = some m.cls) (hts : ∀ w ∈ wsL_adds, w.before args s = true) (hA : ∀ q, s.heap.size ≤ q → A q) (hK : va_K (dC, dI) vwCl [(cA, .int)] s)
    (kk0 : ∀ (H : Heap) (locs : List Loc), va_P (dC, dI) vwCl [(a_q, .inl (cA, 5, .inl f_q_L3)), (a_na, .inl (cA, 15, .inl f_na_L3)), (a_we, .inl (cA, 15, .inl f_we_L3)), (a_ho, .inl (cA, 15, .inl f_ho_L3))] H → va_D A [(a_q, .inl (cA, 5, .inl f_q_L3)), (a_na, .inl (cA, 15, .inl f_na_L3)), (a_we, .inl (cA, 15, .inl f_we_L3)), (a_ho, .inl (cA, 15, .inl f_ho_L3))] → va_S A s.heap H locs → ∀ ls : Array Slot, lv_has ls 8 [(0, .int x0_3), (1, .int x1_3), (2, .ref a_q), (3, .ref a_na), (4, .ref a_we), (5, .ref a_ho), (6, .int y6_3)] → W p l e (headSpec wsL_adds rmL_adds).room s m args below meth c H locs 0 0 Q (F0 m 23 ls [])) :
    ∀ (n : Nat) (x6_3 : Int32), mL_adds_L3 f_na_L3 n x6_3 = some y6_3 → ∀ (H : Heap) (locs : List Loc), va_P (dC, dI) vwCl [(a_q, .inl (cA, 5, .inl f_q_L3)), (a_na, .inl (cA, 15, .inl f_na_L3)), (a_we, .inl (cA, 15, .inl f_we_L3)), (a_ho, .inl (cA, 15, .inl f_ho_L3))] H → va_D A [(a_q, .inl (cA, 5, .inl f_q_L3)), (a_na, .inl (cA, 15, .inl f_na_L3)), (a_we, .inl (cA, 15, .inl f_we_L3)), (a_ho, .inl (cA, 15, .inl f_ho_L3))] → va_S A s.heap H locs → ∀ ls : Array Slot, lv_has ls 8 [(0, .int x0_3), (1, .int x1_3), (2, .ref a_q), (3, .ref a_na), (4, .ref a_we), (5, .ref a_ho), (6, .int x6_3)] → W p l e (headSpec wsL_adds rmL_adds).room s m args below meth c H locs 0 0 Q (F0 m 3 ls []) := by
  intro n
  induction n with
  | zero =>
    intro x6_3 hm
    cases hm
  | succ n ih =>
    intro x6_3 hm H locs hP hD hS ls hl
    rw [mL_adds_L3] at hm
    refine lv_iload hx hb dL_adds_3 (lv_at hl 6 rfl) ?_
    refine lv_aload_n hx hb dL_adds_5 rfl (lv_at hl 3 rfl) ?_
    obtain ⟨r6, e6, hm⟩ := bs hm
    try dsimp only at hm
    refine ro_callSz ⟨hx, hb, hml, hown, hts⟩ (kL_inTown l dC dI cA a_na f_na_L3 x6_3 r6 e6) (va_cwS 2 hts gL_adds_L_inTown rfl rfl rfl hdL_inTown.2 ⟨Nat.le_of_ble_eq_true rfl, Nat.le_of_ble_eq_true rfl⟩) (hP.sub [1] rfl) hK rfl hl.1 rfl (Nat.le_of_ble_eq_true rfl) dL_adds_6 ⟨Nat.zero_le _, Nat.zero_le _⟩ (fun hb6 => ?_)
    refine lv_if_ne (tgt := 23) hx hb dL_adds_9 (by decide) (fun c9 => ?_) (fun c9 => ?_)
    · rw [if_neg c9] at hm
      cases hm
      exact kk0 _ _ (hP.sub [0, 1, 2, 3] rfl) (hD.sub [0, 1, 2, 3] (by decide) rfl) hS _ (lv_sub hl [0, 1, 2, 3, 4, 5, 6] rfl)
    · rw [if_pos c9] at hm
      refine lv_iload hx hb dL_adds_12 (lv_at hl 6 rfl) ?_
      refine lv_iconst (v := 1) hx hb dL_adds_14 (by decide) ?_
      refine lv_isub hx hb dL_adds_15 ?_
      refine lv_iconst (v := 2) hx hb dL_adds_16 (by decide) ?_
      refine lv_idiv hx hb dL_adds_17 (by decide) ?_
      refine lv_istore (lv' := [(6, .int ((x6_3 - 1) / 2)), (0, .int x0_3), (1, .int x1_3), (2, .ref a_q), (3, .ref a_na), (4, .ref a_we), (5, .ref a_ho)]) hx hb dL_adds_18 hl (by decide) rfl (fun ls hl => ?_)
      refine lv_goto (tgt := 3) hx hb dL_adds_20 (by decide) ?_
      exact ih _ hm _ _ (hP.sub [0, 1, 2, 3] rfl) (hD.sub [0, 1, 2, 3] (by decide) rfl) hS _ (lv_sub hl [1, 2, 3, 4, 5, 6, 0] rfl)
set_option maxHeartbeats 4000000 in
set_option maxRecDepth 100000 in
theorem wL_adds_L47 {p : Program} {l : Launch} {e : Env} {s : State} {m : MethodId} {args : Array Value} {below : List Frame} {meth : Method} {c : Code} {Q : State → Prop} {A : Nat → Prop} (dC : Nat → ClassId) (dI : Nat → Nat → Nat) (cA : ClassId) (a_q a_na a_we a_ho : Nat) (p0 p1 x0_47 x1_47 x6_47 : Int32) (f_na_L47 f_we_L47 : Nat → Int32) (y7_47 : Int32) (f_q_E47 f_ho_E47 : Nat → Int32) (hx : p.tables.exec = Jvm.exec) (hb : c.code = cL_adds) (hml : c.maxLocals = 8) (hown : s.vm.findClass RL = some m.cls) (hts : ∀ w ∈ wsL_adds, w.before args s = true) (hA : ∀ q, s.heap.size ≤ q → A q) (hK : va_K (dC, dI) vwCl [(cA, .int)] s)
    (kk0 : ∀ (H : Heap) (locs : List Loc), va_P (dC, dI) vwCl [(a_q, .inl (cA, 5, .inl f_q_E47)), (a_na, .inl (cA, 15, .inl f_na_L47)), (a_we, .inl (cA, 15, .inl f_we_L47)), (a_ho, .inl (cA, 15, .inl f_ho_E47))] H → va_D A [(a_q, .inl (cA, 5, .inl f_q_E47)), (a_na, .inl (cA, 15, .inl f_na_L47)), (a_we, .inl (cA, 15, .inl f_we_L47)), (a_ho, .inl (cA, 15, .inl f_ho_E47))] → va_S A s.heap H locs → ∀ ls : Array Slot, lv_has ls 8 [(0, .int x0_47), (1, .int x1_47), (2, .ref a_q), (3, .ref a_na), (4, .ref a_we), (5, .ref a_ho), (6, .int x6_47), (7, .int y7_47)] → W p l e (headSpec wsL_adds rmL_adds).room s m args below meth c H locs 0 0 Q (F0 m 78 ls [])) :
    ∀ (n : Nat) (x7_47 : Int32) (f_q_L47 f_ho_L47 : Nat → Int32), mL_adds_L47 x6_47 n x7_47 f_q_L47 f_ho_L47 = some (y7_47, f_q_E47, f_ho_E47) → ∀ (H : Heap) (locs : List Loc), va_P (dC, dI) vwCl [(a_q, .inl (cA, 5, .inl f_q_L47)), (a_na, .inl (cA, 15, .inl f_na_L47)), (a_we, .inl (cA, 15, .inl f_we_L47)), (a_ho, .inl (cA, 15, .inl f_ho_L47))] H → va_D A [(a_q, .inl (cA, 5, .inl f_q_L47)), (a_na, .inl (cA, 15, .inl f_na_L47)), (a_we, .inl (cA, 15, .inl f_we_L47)), (a_ho, .inl (cA, 15, .inl f_ho_L47))] → va_S A s.heap H locs → ∀ ls : Array Slot, lv_has ls 8 [(0, .int x0_47), (1, .int x1_47), (2, .ref a_q), (3, .ref a_na), (4, .ref a_we), (5, .ref a_ho), (6, .int x6_47), (7, .int x7_47)] → W p l e (headSpec wsL_adds rmL_adds).room s m args below meth c H locs 0 0 Q (F0 m 47 ls []) := by
  intro n
  induction n with
  | zero =>
    intro x7_47 f_q_L47 f_ho_L47 hm
    cases hm
  | succ n ih =>
    intro x7_47 f_q_L47 f_ho_L47 hm H locs hP hD hS ls hl
    rw [mL_adds_L47] at hm
    refine lv_iload hx hb dL_adds_47 (lv_at hl 7 rfl) ?_
    refine lv_iload hx hb dL_adds_49 (lv_at hl 6 rfl) ?_
    refine lv_icmp_le (tgt := 78) hx hb dL_adds_51 (by decide) (fun c51 => ?_) (fun c51 => ?_)
    · rw [if_pos c51] at hm
      cases hm
      exact kk0 _ _ (hP.sub [0, 1, 2, 3] rfl) (hD.sub [0, 1, 2, 3] (by decide) rfl) hS _ (lv_sub hl [0, 1, 2, 3, 4, 5, 6, 7] rfl)
    · rw [if_neg c51] at hm
      refine lv_aload hx hb dL_adds_54 (lv_at hl 5 rfl) ?_
      refine lv_iload hx hb dL_adds_56 (lv_at hl 7 rfl) ?_
      refine lv_iconst (v := 1) hx hb dL_adds_58 (by decide) ?_
      obtain ⟨f_ho_59, e59, hm⟩ := bs hm
      try dsimp only at hm
      refine xa_stO hx hb hK hP hD hS 3 0 rfl rfl e59 dL_adds_59 (fun H locs hP hD hS => ?_)
      have hP : va_P (dC, dI) vwCl [(a_q, .inl (cA, 5, .inl f_q_L47)), (a_na, .inl (cA, 15, .inl f_na_L47)), (a_we, .inl (cA, 15, .inl f_we_L47)), (a_ho, .inl (cA, 15, .inl f_ho_59))] H := hP
      have hD : va_D A [(a_q, .inl (cA, 5, .inl f_q_L47)), (a_na, .inl (cA, 15, .inl f_na_L47)), (a_we, .inl (cA, 15, .inl f_we_L47)), (a_ho, .inl (cA, 15, .inl f_ho_59))] := hD
      refine lv_aload_n hx hb dL_adds_60 rfl (lv_at hl 2 rfl) ?_
      refine lv_iconst (v := 3) hx hb dL_adds_61 (by decide) ?_
      refine lv_dup2_11 hx hb dL_adds_62 rfl rfl ?_
      refine xa_ldK hx hb hK hP 0 0 rfl rfl 3 rfl (by decide) (by decide) dL_adds_63 ?_
      refine lv_iconst (v := 1) hx hb dL_adds_64 (by decide) ?_
      refine lv_iadd hx hb dL_adds_65 ?_
      refine xa_stK hx hb hK hP hD hS 0 0 rfl rfl 3 rfl (by decide) (by decide) dL_adds_66 (fun H locs hP hD hS => ?_)
      have hP : va_P (dC, dI) vwCl [(a_q, .inl (cA, 5, .inl (upd f_q_L47 3 ((f_q_L47 3) + 1)))), (a_na, .inl (cA, 15, .inl f_na_L47)), (a_we, .inl (cA, 15, .inl f_we_L47)), (a_ho, .inl (cA, 15, .inl f_ho_59))] H := hP
      have hD : va_D A [(a_q, .inl (cA, 5, .inl (upd f_q_L47 3 ((f_q_L47 3) + 1)))), (a_na, .inl (cA, 15, .inl f_na_L47)), (a_we, .inl (cA, 15, .inl f_we_L47)), (a_ho, .inl (cA, 15, .inl f_ho_59))] := hD
      refine lv_iload hx hb dL_adds_67 (lv_at hl 7 rfl) ?_
      refine lv_iconst (v := 1) hx hb dL_adds_69 (by decide) ?_
      refine lv_isub hx hb dL_adds_70 ?_
      refine lv_iconst (v := 2) hx hb dL_adds_71 (by decide) ?_
      refine lv_idiv hx hb dL_adds_72 (by decide) ?_
      refine lv_istore (lv' := [(7, .int ((x7_47 - 1) / 2)), (0, .int x0_47), (1, .int x1_47), (2, .ref a_q), (3, .ref a_na), (4, .ref a_we), (5, .ref a_ho), (6, .int x6_47)]) hx hb dL_adds_73 hl (by decide) rfl (fun ls hl => ?_)
      refine lv_goto (tgt := 47) hx hb dL_adds_75 (by decide) ?_
      exact ih _ _ _ hm _ _ (hP.sub [0, 1, 2, 3] rfl) (hD.sub [0, 1, 2, 3] (by decide) rfl) hS _ (lv_sub hl [1, 2, 3, 4, 5, 6, 7, 0] rfl)
set_option maxHeartbeats 4000000 in
set_option maxRecDepth 100000 in
theorem kL_adds (l : Launch) (dC : Nat → ClassId) (dI : Nat → Nat → Nat) (cA : ClassId) (a_q a_na a_we a_ho : Nat) (f_q f_na f_we f_ho : Nat → Int32) (p0 p1 : Int32) (sz : Nat) (r : Int32) (o_f_q o_f_na o_f_we o_f_ho : Nat → Int32) (hm : (mL_adds f_q f_na f_we f_ho p0 p1) = some (r, o_f_q, o_f_na, o_f_we, o_f_ho)) : Met l yL_adds wsL_adds rmL_adds (mpc (dC, dI) [(cA, .int)] (wL_adds cA a_q a_na a_we a_ho f_q f_na f_we f_ho) [.int p0, .int p1, .ref a_q, .ref a_na, .ref a_we, .ref a_ho] sz) (mqi (dC, dI) [(cA, .int)] (va_A (wL_adds cA a_q a_na a_we a_ho f_q f_na f_we f_ho) sz) (wL_adds cA a_q a_na a_we a_ho o_f_q o_f_na o_f_we o_f_ho) (fun x => x = r)) 0 0 (va_A (wL_adds cA a_q a_na a_we a_ho f_q f_na f_we f_ho) sz) := by
  unfold mL_adds at hm
  refine mu_ofW (Qc := fun A => mqi (dC, dI) [(cA, .int)] A (wL_adds cA a_q a_na a_we a_ho o_f_q o_f_na o_f_we o_f_ho) (fun x => x = r)) (cc := cL_adds) (maxL := 8) (ret := (some .int)) (own := RL) (by decide) rfl rfl (Nat.le_of_ble_eq_true rfl) ?_
  intro p e s m args below meth c hx hb hr hts hown hlocks hml hin A hA hP hD hS hK ls hl
  have hl : lv_has ls 8 [(0, .int p0), (1, .int p1), (2, .ref a_q), (3, .ref a_na), (4, .ref a_we), (5, .ref a_ho)] := hl
  have hP : va_P (dC, dI) vwCl [(a_q, .inl (cA, 5, .inl f_q)), (a_na, .inl (cA, 15, .inl f_na)), (a_we, .inl (cA, 15, .inl f_we)), (a_ho, .inl (cA, 15, .inl f_ho))] s.heap := hP
  have hD : va_D A [(a_q, .inl (cA, 5, .inl f_q)), (a_na, .inl (cA, 15, .inl f_na)), (a_we, .inl (cA, 15, .inl f_we)), (a_ho, .inl (cA, 15, .inl f_ho))] := hD
  refine lv_iload_n hx hb dL_adds_0 rfl (lv_at hl 0 rfl) ?_
  refine lv_istore (lv' := [(6, .int p0), (0, .int p0), (1, .int p1), (2, .ref a_q), (3, .ref a_na), (4, .ref a_we), (5, .ref a_ho)]) hx hb dL_adds_1 hl (by decide) rfl (fun ls hl => ?_)
  obtain ⟨y6_3, e3, hm⟩ := bs hm
  try dsimp only at hm
  refine wL_adds_L3 dC dI cA a_q a_na a_we a_ho p0 p1 p0 p1 f_q f_na f_we f_ho y6_3 hx hb hml hown hts hA hK ?_ FU _ e3 _ _ (hP.sub [0, 1, 2, 3] rfl) (hD.sub [0, 1, 2, 3] (by decide) rfl) hS _ (lv_sub hl [1, 2, 3, 4, 5, 6, 0] rfl)
  · intro H locs hP hD hS ls hl
    refine lv_aload hx hb dL_adds_23 (lv_at hl 5 rfl) ?_
    refine lv_iload hx hb dL_adds_25 (lv_at hl 6 rfl) ?_
    obtain ⟨r27, e27, hm⟩ := bs hm
    try dsimp only at hm
    refine xa_ldO hx hb hK hP 3 0 rfl rfl e27 dL_adds_27 ?_
    refine lv_if_ne (tgt := 44) hx hb dL_adds_28 (by decide) (fun c28 => ?_) (fun c28 => ?_)
    · rw [if_neg c28] at hm
      refine lv_iload_n hx hb dL_adds_44 rfl (lv_at hl 0 rfl) ?_
      refine lv_istore (lv' := [(7, .int p0), (0, .int p0), (1, .int p1), (2, .ref a_q), (3, .ref a_na), (4, .ref a_we), (5, .ref a_ho), (6, .int y6_3)]) hx hb dL_adds_45 hl (by decide) rfl (fun ls hl => ?_)
      obtain ⟨⟨y7_47, f_q_E47, f_ho_E47⟩, e47, hm⟩ := bs hm
      try dsimp only at hm
      refine wL_adds_L47 dC dI cA a_q a_na a_we a_ho p0 p1 p0 p1 y6_3 f_na f_we y7_47 f_q_E47 f_ho_E47 hx hb hml hown hts hA hK ?_ FU _ _ _ e47 _ _ (hP.sub [0, 1, 2, 3] rfl) (hD.sub [0, 1, 2, 3] (by decide) rfl) hS _ (lv_sub hl [1, 2, 3, 4, 5, 6, 7, 0] rfl)
      · intro H locs hP hD hS ls hl
        refine lv_aload_n hx hb dL_adds_78 rfl (lv_at hl 3 rfl) ?_
        refine lv_iload_n hx hb dL_adds_79 rfl (lv_at hl 0 rfl) ?_
        refine lv_iconst (v := 1) hx hb dL_adds_80 (by decide) ?_
        obtain ⟨f_na_81, e81, hm⟩ := bs hm
        try dsimp only at hm
        refine xa_stO hx hb hK hP hD hS 1 0 rfl rfl e81 dL_adds_81 (fun H locs hP hD hS => ?_)
        have hP : va_P (dC, dI) vwCl [(a_q, .inl (cA, 5, .inl f_q_E47)), (a_na, .inl (cA, 15, .inl f_na_81)), (a_we, .inl (cA, 15, .inl f_we)), (a_ho, .inl (cA, 15, .inl f_ho_E47))] H := hP
        have hD : va_D A [(a_q, .inl (cA, 5, .inl f_q_E47)), (a_na, .inl (cA, 15, .inl f_na_81)), (a_we, .inl (cA, 15, .inl f_we)), (a_ho, .inl (cA, 15, .inl f_ho_E47))] := hD
        refine lv_aload hx hb dL_adds_82 (lv_at hl 4 rfl) ?_
        refine lv_iload_n hx hb dL_adds_84 rfl (lv_at hl 0 rfl) ?_
        refine lv_iload_n hx hb dL_adds_85 rfl (lv_at hl 1 rfl) ?_
        obtain ⟨f_we_86, e86, hm⟩ := bs hm
        try dsimp only at hm
        refine xa_stO hx hb hK hP hD hS 2 0 rfl rfl e86 dL_adds_86 (fun H locs hP hD hS => ?_)
        have hP : va_P (dC, dI) vwCl [(a_q, .inl (cA, 5, .inl f_q_E47)), (a_na, .inl (cA, 15, .inl f_na_81)), (a_we, .inl (cA, 15, .inl f_we_86)), (a_ho, .inl (cA, 15, .inl f_ho_E47))] H := hP
        have hD : va_D A [(a_q, .inl (cA, 5, .inl f_q_E47)), (a_na, .inl (cA, 15, .inl f_na_81)), (a_we, .inl (cA, 15, .inl f_we_86)), (a_ho, .inl (cA, 15, .inl f_ho_E47))] := hD
        refine lv_iload_n hx hb dL_adds_87 rfl (lv_at hl 0 rfl) ?_
        refine lv_aload_n hx hb dL_adds_88 rfl (lv_at hl 3 rfl) ?_
        obtain ⟨r89, e89, hm⟩ := bs hm
        try dsimp only at hm
        refine ro_callSe ⟨hx, hb, hml, hown, hts⟩ (kL_rank l dC dI cA a_na f_na_81 p0 r89 e89) (va_cwS 2 hts gL_adds_L_rank rfl rfl rfl hdL_rank.2 ⟨Nat.le_of_ble_eq_true rfl, Nat.le_of_ble_eq_true rfl⟩) (hP.sub [1] rfl) hK rfl hl.1 rfl (Nat.le_of_ble_eq_true rfl) dL_adds_89 ⟨Nat.zero_le _, Nat.zero_le _⟩ ?_
        cases hm
        exact mu_iret hx hb hr rfl rfl hP hD hS hK [0, 1, 2, 3] rfl (by decide) dL_adds_92 hlocks
    · rw [if_pos c28] at hm
      refine lv_aload hx hb dL_adds_31 (lv_at hl 5 rfl) ?_
      refine lv_iload hx hb dL_adds_33 (lv_at hl 6 rfl) ?_
      refine lv_iconst (v := 1) hx hb dL_adds_35 (by decide) ?_
      obtain ⟨f_ho_36, e36, hm⟩ := bs hm
      try dsimp only at hm
      refine xa_stO hx hb hK hP hD hS 3 0 rfl rfl e36 dL_adds_36 (fun H locs hP hD hS => ?_)
      have hP : va_P (dC, dI) vwCl [(a_q, .inl (cA, 5, .inl f_q)), (a_na, .inl (cA, 15, .inl f_na)), (a_we, .inl (cA, 15, .inl f_we)), (a_ho, .inl (cA, 15, .inl f_ho_36))] H := hP
      have hD : va_D A [(a_q, .inl (cA, 5, .inl f_q)), (a_na, .inl (cA, 15, .inl f_na)), (a_we, .inl (cA, 15, .inl f_we)), (a_ho, .inl (cA, 15, .inl f_ho_36))] := hD
      refine lv_aload_n hx hb dL_adds_37 rfl (lv_at hl 2 rfl) ?_
      refine lv_iconst (v := 2) hx hb dL_adds_38 (by decide) ?_
      refine lv_dup2_11 hx hb dL_adds_39 rfl rfl ?_
      refine xa_ldK hx hb hK hP 0 0 rfl rfl 2 rfl (by decide) (by decide) dL_adds_40 ?_
      refine lv_iconst (v := 1) hx hb dL_adds_41 (by decide) ?_
      refine lv_iadd hx hb dL_adds_42 ?_
      refine xa_stK hx hb hK hP hD hS 0 0 rfl rfl 2 rfl (by decide) (by decide) dL_adds_43 (fun H locs hP hD hS => ?_)
      have hP : va_P (dC, dI) vwCl [(a_q, .inl (cA, 5, .inl (upd f_q 2 ((f_q 2) + 1)))), (a_na, .inl (cA, 15, .inl f_na)), (a_we, .inl (cA, 15, .inl f_we)), (a_ho, .inl (cA, 15, .inl f_ho_36))] H := hP
      have hD : va_D A [(a_q, .inl (cA, 5, .inl (upd f_q 2 ((f_q 2) + 1)))), (a_na, .inl (cA, 15, .inl f_na)), (a_we, .inl (cA, 15, .inl f_we)), (a_ho, .inl (cA, 15, .inl f_ho_36))] := hD
      refine lv_iload_n hx hb dL_adds_44 rfl (lv_at hl 0 rfl) ?_
      refine lv_istore (lv' := [(7, .int p0), (0, .int p0), (1, .int p1), (2, .ref a_q), (3, .ref a_na), (4, .ref a_we), (5, .ref a_ho), (6, .int y6_3)]) hx hb dL_adds_45 hl (by decide) rfl (fun ls hl => ?_)
      obtain ⟨⟨y7_47, f_q_E47, f_ho_E47⟩, e47, hm⟩ := bs hm
      try dsimp only at hm
      refine wL_adds_L47 dC dI cA a_q a_na a_we a_ho p0 p1 p0 p1 y6_3 f_na f_we y7_47 f_q_E47 f_ho_E47 hx hb hml hown hts hA hK ?_ FU _ _ _ e47 _ _ (hP.sub [0, 1, 2, 3] rfl) (hD.sub [0, 1, 2, 3] (by decide) rfl) hS _ (lv_sub hl [1, 2, 3, 4, 5, 6, 7, 0] rfl)
      · intro H locs hP hD hS ls hl
        refine lv_aload_n hx hb dL_adds_78 rfl (lv_at hl 3 rfl) ?_
        refine lv_iload_n hx hb dL_adds_79 rfl (lv_at hl 0 rfl) ?_
        refine lv_iconst (v := 1) hx hb dL_adds_80 (by decide) ?_
        obtain ⟨f_na_81, e81, hm⟩ := bs hm
        try dsimp only at hm
        refine xa_stO hx hb hK hP hD hS 1 0 rfl rfl e81 dL_adds_81 (fun H locs hP hD hS => ?_)
        have hP : va_P (dC, dI) vwCl [(a_q, .inl (cA, 5, .inl f_q_E47)), (a_na, .inl (cA, 15, .inl f_na_81)), (a_we, .inl (cA, 15, .inl f_we)), (a_ho, .inl (cA, 15, .inl f_ho_E47))] H := hP
        have hD : va_D A [(a_q, .inl (cA, 5, .inl f_q_E47)), (a_na, .inl (cA, 15, .inl f_na_81)), (a_we, .inl (cA, 15, .inl f_we)), (a_ho, .inl (cA, 15, .inl f_ho_E47))] := hD
        refine lv_aload hx hb dL_adds_82 (lv_at hl 4 rfl) ?_
        refine lv_iload_n hx hb dL_adds_84 rfl (lv_at hl 0 rfl) ?_
        refine lv_iload_n hx hb dL_adds_85 rfl (lv_at hl 1 rfl) ?_
        obtain ⟨f_we_86, e86, hm⟩ := bs hm
        try dsimp only at hm
        refine xa_stO hx hb hK hP hD hS 2 0 rfl rfl e86 dL_adds_86 (fun H locs hP hD hS => ?_)
        have hP : va_P (dC, dI) vwCl [(a_q, .inl (cA, 5, .inl f_q_E47)), (a_na, .inl (cA, 15, .inl f_na_81)), (a_we, .inl (cA, 15, .inl f_we_86)), (a_ho, .inl (cA, 15, .inl f_ho_E47))] H := hP
        have hD : va_D A [(a_q, .inl (cA, 5, .inl f_q_E47)), (a_na, .inl (cA, 15, .inl f_na_81)), (a_we, .inl (cA, 15, .inl f_we_86)), (a_ho, .inl (cA, 15, .inl f_ho_E47))] := hD
        refine lv_iload_n hx hb dL_adds_87 rfl (lv_at hl 0 rfl) ?_
        refine lv_aload_n hx hb dL_adds_88 rfl (lv_at hl 3 rfl) ?_
        obtain ⟨r89, e89, hm⟩ := bs hm
        try dsimp only at hm
        refine ro_callSe ⟨hx, hb, hml, hown, hts⟩ (kL_rank l dC dI cA a_na f_na_81 p0 r89 e89) (va_cwS 2 hts gL_adds_L_rank rfl rfl rfl hdL_rank.2 ⟨Nat.le_of_ble_eq_true rfl, Nat.le_of_ble_eq_true rfl⟩) (hP.sub [1] rfl) hK rfl hl.1 rfl (Nat.le_of_ble_eq_true rfl) dL_adds_89 ⟨Nat.zero_le _, Nat.zero_le _⟩ ?_
        cases hm
        exact mu_iret hx hb hr rfl rfl hP hD hS hK [0, 1, 2, 3] rfl (by decide) dL_adds_92 hlocks
def mL_removes_L10 (f_na_L10 : Nat → Int32) : Nat → (Int32) → (Int32) → (Nat → Int32) → Option (Int32 × Int32 × (Nat → Int32))
  | 0, _, _, _ => none
  | n + 1, x4_10, x5_10, f_ho_L10 =>
    (if x5_10 ≤ 0 then
      some (x4_10, x5_10, f_ho_L10)
    else
      ((rdA 15 f_na_L10 x5_10).bind fun r18 =>
      (if r18 = 0 then
        ((mL_children f_ho_L10 x5_10).bind fun r25 =>
        (if r25 = 0 then
          ((mL_parent f_ho_L10 x5_10).bind fun r34 =>
          ((wrA 15 f_ho_L10 x5_10 0).bind fun f_ho_43 =>
          mL_removes_L10 f_na_L10 n (x4_10 + 1) r34 f_ho_43))
        else
          some (x4_10, x5_10, f_ho_L10)))
      else
        some (x4_10, x5_10, f_ho_L10))))
def mL_removes (f_q : Nat → Int32) (f_na : Nat → Int32) (f_ho : Nat → Int32) (p0 : Int32) : Option (Int32 × (Nat → Int32) × (Nat → Int32) × (Nat → Int32)) :=
  ((wrA 15 f_na p0 0).bind fun f_na_3 =>
  ((mL_removes_L10 f_na_3 FU 0 p0 f_ho).bind fun (y4_10, y5_10, f_ho_E10) =>
  some (y4_10, (upd f_q 4 ((f_q 4) + y4_10)), f_na_3, f_ho_E10)))
abbrev rmL_removes : Room := { frames := 2, cells := 0, slots := 0, locals := 45 }
abbrev wL_removes (cA : ClassId) (a_q a_na a_ho : Nat) (f_q f_na f_ho : Nat → Int32) : va_W := [(a_q, .inl (cA, 5, .inl f_q)), (a_na, .inl (cA, 15, .inl f_na)), (a_ho, .inl (cA, 15, .inl f_ho))]
theorem hdL_removes : yL_removes.cls = RL ∧ yL_removes.cls ≠ "java/lang/invoke/MethodHandle" ∧ yL_removes.cls ≠ "java/lang/invoke/VarHandle" ∧ (parseMethodDescriptor yL_removes.desc).map (fun d => d.parameters.length) = some 4 := by decide +kernel
set_option maxHeartbeats 4000000 in
set_option maxRecDepth 100000 in
theorem wL_removes_L10 {p : Program} {l : Launch} {e : Env} {s : State} {m : MethodId} {args : Array Value} {below : List Frame} {meth : Method} {c : Code} {Q : State → Prop} {A : Nat → Prop} (dC : Nat → ClassId) (dI : Nat → Nat → Nat) (cA : ClassId) (a_q a_na a_ho : Nat) (p0 : Int32) (f_q_L10 f_na_L10 : Nat → Int32) (y4_10 y5_10 : Int32) (f_ho_E10 : Nat → Int32) (hx : p.tables.exec = Jvm.exec) (hb : c.code = cL_removes) (hml : c.maxLocals = 7) (hown : s.vm.findClass RL = some m.cls) (hts : ∀ w ∈ wsL_removes, w.before args s = true) (hA : ∀ q, s.heap.size ≤ q → A q) (hK : va_K (dC, dI) vwCl [(cA, .int)] s)
    (kk0 : ∀ (H : Heap) (locs : List Loc), va_P (dC, dI) vwCl [(a_q, .inl (cA, 5, .inl f_q_L10)), (a_na, .inl (cA, 15, .inl f_na_L10)), (a_ho, .inl (cA, 15, .inl f_ho_E10))] H → va_D A [(a_q, .inl (cA, 5, .inl f_q_L10)), (a_na, .inl (cA, 15, .inl f_na_L10)), (a_ho, .inl (cA, 15, .inl f_ho_E10))] → va_S A s.heap H locs → ∀ ls : Array Slot, lv_has ls 7 [(1, .ref a_q), (2, .ref a_na), (3, .ref a_ho), (4, .int y4_10), (5, .int y5_10)] → W p l e (headSpec wsL_removes rmL_removes).room s m args below meth c H locs 0 0 Q (F0 m 54 ls [])) :
    ∀ (n : Nat) (x4_10 x5_10 : Int32) (f_ho_L10 : Nat → Int32), mL_removes_L10 f_na_L10 n x4_10 x5_10 f_ho_L10 = some (y4_10, y5_10, f_ho_E10) → ∀ (H : Heap) (locs : List Loc), va_P (dC, dI) vwCl [(a_q, .inl (cA, 5, .inl f_q_L10)), (a_na, .inl (cA, 15, .inl f_na_L10)), (a_ho, .inl (cA, 15, .inl f_ho_L10))] H → va_D A [(a_q, .inl (cA, 5, .inl f_q_L10)), (a_na, .inl (cA, 15, .inl f_na_L10)), (a_ho, .inl (cA, 15, .inl f_ho_L10))] → va_S A s.heap H locs → ∀ ls : Array Slot, lv_has ls 7 [(1, .ref a_q), (2, .ref a_na), (3, .ref a_ho), (4, .int x4_10), (5, .int x5_10)] → W p l e (headSpec wsL_removes rmL_removes).room s m args below meth c H locs 0 0 Q (F0 m 10 ls []) := by
  intro n
  induction n with
  | zero =>
    intro x4_10 x5_10 f_ho_L10 hm
    cases hm
  | succ n ih =>
    intro x4_10 x5_10 f_ho_L10 hm H locs hP hD hS ls hl
    rw [mL_removes_L10] at hm
    refine lv_iload hx hb dL_removes_10 (lv_at hl 4 rfl) ?_
    refine lv_if_le (tgt := 54) hx hb dL_removes_12 (by decide) (fun c12 => ?_) (fun c12 => ?_)
    · rw [if_pos c12] at hm
      cases hm
      exact kk0 _ _ (hP.sub [0, 1, 2] rfl) (hD.sub [0, 1, 2] (by decide) rfl) hS _ (lv_sub hl [0, 1, 2, 3, 4] rfl)
    · rw [if_neg c12] at hm
      refine lv_aload_n hx hb dL_removes_15 rfl (lv_at hl 1 rfl) ?_
      refine lv_iload hx hb dL_removes_16 (lv_at hl 4 rfl) ?_
      obtain ⟨r18, e18, hm⟩ := bs hm
      try dsimp only at hm
      refine xa_ldO hx hb hK hP 1 0 rfl rfl e18 dL_removes_18 ?_
      refine lv_if_ne (tgt := 54) hx hb dL_removes_19 (by decide) (fun c19 => ?_) (fun c19 => ?_)
      · rw [if_neg c19] at hm
        cases hm
        exact kk0 _ _ (hP.sub [0, 1, 2] rfl) (hD.sub [0, 1, 2] (by decide) rfl) hS _ (lv_sub hl [0, 1, 2, 3, 4] rfl)
      · rw [if_pos c19] at hm
        refine lv_iload hx hb dL_removes_22 (lv_at hl 4 rfl) ?_
        refine lv_aload_n hx hb dL_removes_24 rfl (lv_at hl 2 rfl) ?_
        obtain ⟨r25, e25, hm⟩ := bs hm
        try dsimp only at hm
        refine ro_callSe ⟨hx, hb, hml, hown, hts⟩ (kL_children l dC dI cA a_ho f_ho_L10 x5_10 r25 e25) (va_cwS 2 hts gL_removes_L_children rfl rfl rfl hdL_children.2 ⟨Nat.le_of_ble_eq_true rfl, Nat.le_of_ble_eq_true rfl⟩) (hP.sub [2] rfl) hK rfl hl.1 rfl (Nat.le_of_ble_eq_true rfl) dL_removes_25 ⟨Nat.zero_le _, Nat.zero_le _⟩ ?_
        refine lv_if_ne (tgt := 54) hx hb dL_removes_28 (by decide) (fun c28 => ?_) (fun c28 => ?_)
        · rw [if_neg c28] at hm
          cases hm
          exact kk0 _ _ (hP.sub [0, 1, 2] rfl) (hD.sub [0, 1, 2] (by decide) rfl) hS _ (lv_sub hl [0, 1, 2, 3, 4] rfl)
        · rw [if_pos c28] at hm
          refine lv_iload hx hb dL_removes_31 (lv_at hl 4 rfl) ?_
          refine lv_aload_n hx hb dL_removes_33 rfl (lv_at hl 2 rfl) ?_
          obtain ⟨r34, e34, hm⟩ := bs hm
          try dsimp only at hm
          refine ro_callSe ⟨hx, hb, hml, hown, hts⟩ (kL_parent l dC dI cA a_ho f_ho_L10 x5_10 r34 e34) (va_cwS 2 hts gL_removes_L_parent rfl rfl rfl hdL_parent.2 ⟨Nat.le_of_ble_eq_true rfl, Nat.le_of_ble_eq_true rfl⟩) (hP.sub [2] rfl) hK rfl hl.1 rfl (Nat.le_of_ble_eq_true rfl) dL_removes_34 ⟨Nat.zero_le _, Nat.zero_le _⟩ ?_
          refine lv_istore (lv' := [(6, .int r34), (1, .ref a_q), (2, .ref a_na), (3, .ref a_ho), (4, .int x4_10), (5, .int x5_10)]) hx hb dL_removes_37 hl (by decide) rfl (fun ls hl => ?_)
          refine lv_aload_n hx hb dL_removes_39 rfl (lv_at hl 3 rfl) ?_
          refine lv_iload hx hb dL_removes_40 (lv_at hl 5 rfl) ?_
          refine lv_iconst (v := 0) hx hb dL_removes_42 (by decide) ?_
          obtain ⟨f_ho_43, e43, hm⟩ := bs hm
          try dsimp only at hm
          refine xa_stO hx hb hK hP hD hS 2 0 rfl rfl e43 dL_removes_43 (fun H locs hP hD hS => ?_)
          have hP : va_P (dC, dI) vwCl [(a_q, .inl (cA, 5, .inl f_q_L10)), (a_na, .inl (cA, 15, .inl f_na_L10)), (a_ho, .inl (cA, 15, .inl f_ho_43))] H := hP
          have hD : va_D A [(a_q, .inl (cA, 5, .inl f_q_L10)), (a_na, .inl (cA, 15, .inl f_na_L10)), (a_ho, .inl (cA, 15, .inl f_ho_43))] := hD
          refine lv_iinc (v := (x4_10 + 1)) (lv' := [(4, .int (x4_10 + 1)), (6, .int r34), (1, .ref a_q), (2, .ref a_na), (3, .ref a_ho), (5, .int x5_10)]) hx hb dL_removes_44 hl (k := 4) rfl rfl (by decide) rfl (fun ls hl => ?_)
          refine lv_iload hx hb dL_removes_47 (lv_at hl 1 rfl) ?_
          refine lv_istore (lv' := [(5, .int r34), (4, .int (x4_10 + 1)), (6, .int r34), (1, .ref a_q), (2, .ref a_na), (3, .ref a_ho)]) hx hb dL_removes_49 hl (by decide) rfl (fun ls hl => ?_)
          refine lv_goto (tgt := 10) hx hb dL_removes_51 (by decide) ?_
          exact ih _ _ _ hm _ _ (hP.sub [0, 1, 2] rfl) (hD.sub [0, 1, 2] (by decide) rfl) hS _ (lv_sub hl [3, 4, 5, 1, 0] rfl)
set_option maxHeartbeats 4000000 in
set_option maxRecDepth 100000 in
theorem kL_removes (l : Launch) (dC : Nat → ClassId) (dI : Nat → Nat → Nat) (cA : ClassId) (a_q a_na a_ho : Nat) (f_q f_na f_ho : Nat → Int32) (p0 : Int32) (sz : Nat) (r : Int32) (o_f_q o_f_na o_f_ho : Nat → Int32) (hm : (mL_removes f_q f_na f_ho p0) = some (r, o_f_q, o_f_na, o_f_ho)) : Met l yL_removes wsL_removes rmL_removes (mpc (dC, dI) [(cA, .int)] (wL_removes cA a_q a_na a_ho f_q f_na f_ho) [.int p0, .ref a_q, .ref a_na, .ref a_ho] sz) (mqi (dC, dI) [(cA, .int)] (va_A (wL_removes cA a_q a_na a_ho f_q f_na f_ho) sz) (wL_removes cA a_q a_na a_ho o_f_q o_f_na o_f_ho) (fun x => x = r)) 0 0 (va_A (wL_removes cA a_q a_na a_ho f_q f_na f_ho) sz) := by
  unfold mL_removes at hm
  refine mu_ofW (Qc := fun A => mqi (dC, dI) [(cA, .int)] A (wL_removes cA a_q a_na a_ho o_f_q o_f_na o_f_ho) (fun x => x = r)) (cc := cL_removes) (maxL := 7) (ret := (some .int)) (own := RL) (by decide) rfl rfl (Nat.le_of_ble_eq_true rfl) ?_
  intro p e s m args below meth c hx hb hr hts hown hlocks hml hin A hA hP hD hS hK ls hl
  have hl : lv_has ls 7 [(0, .int p0), (1, .ref a_q), (2, .ref a_na), (3, .ref a_ho)] := hl
  have hP : va_P (dC, dI) vwCl [(a_q, .inl (cA, 5, .inl f_q)), (a_na, .inl (cA, 15, .inl f_na)), (a_ho, .inl (cA, 15, .inl f_ho))] s.heap := hP
  have hD : va_D A [(a_q, .inl (cA, 5, .inl f_q)), (a_na, .inl (cA, 15, .inl f_na)), (a_ho, .inl (cA, 15, .inl f_ho))] := hD
  refine lv_aload_n hx hb dL_removes_0 rfl (lv_at hl 2 rfl) ?_
  refine lv_iload_n hx hb dL_removes_1 rfl (lv_at hl 0 rfl) ?_
  refine lv_iconst (v := 0) hx hb dL_removes_2 (by decide) ?_
  obtain ⟨f_na_3, e3, hm⟩ := bs hm
  try dsimp only at hm
  refine xa_stO hx hb hK hP hD hS 1 0 rfl rfl e3 dL_removes_3 (fun H locs hP hD hS => ?_)
  have hP : va_P (dC, dI) vwCl [(a_q, .inl (cA, 5, .inl f_q)), (a_na, .inl (cA, 15, .inl f_na_3)), (a_ho, .inl (cA, 15, .inl f_ho))] H := hP
  have hD : va_D A [(a_q, .inl (cA, 5, .inl f_q)), (a_na, .inl (cA, 15, .inl f_na_3)), (a_ho, .inl (cA, 15, .inl f_ho))] := hD
  refine lv_iconst (v := 0) hx hb dL_removes_4 (by decide) ?_
  refine lv_istore (lv' := [(4, .int 0), (0, .int p0), (1, .ref a_q), (2, .ref a_na), (3, .ref a_ho)]) hx hb dL_removes_5 hl (by decide) rfl (fun ls hl => ?_)
  refine lv_iload_n hx hb dL_removes_7 rfl (lv_at hl 1 rfl) ?_
  refine lv_istore (lv' := [(5, .int p0), (4, .int 0), (0, .int p0), (1, .ref a_q), (2, .ref a_na), (3, .ref a_ho)]) hx hb dL_removes_8 hl (by decide) rfl (fun ls hl => ?_)
  obtain ⟨⟨y4_10, y5_10, f_ho_E10⟩, e10, hm⟩ := bs hm
  try dsimp only at hm
  refine wL_removes_L10 dC dI cA a_q a_na a_ho p0 f_q f_na_3 y4_10 y5_10 f_ho_E10 hx hb hml hown hts hA hK ?_ FU _ _ _ e10 _ _ (hP.sub [0, 1, 2] rfl) (hD.sub [0, 1, 2] (by decide) rfl) hS _ (lv_sub hl [3, 4, 5, 1, 0] rfl)
  · intro H locs hP hD hS ls hl
    refine lv_aload_n hx hb dL_removes_54 rfl (lv_at hl 0 rfl) ?_
    refine lv_iconst (v := 4) hx hb dL_removes_55 (by decide) ?_
    refine lv_dup2_11 hx hb dL_removes_56 rfl rfl ?_
    refine xa_ldK hx hb hK hP 0 0 rfl rfl 4 rfl (by decide) (by decide) dL_removes_57 ?_
    refine lv_iload hx hb dL_removes_58 (lv_at hl 3 rfl) ?_
    refine lv_iadd hx hb dL_removes_60 ?_
    refine xa_stK hx hb hK hP hD hS 0 0 rfl rfl 4 rfl (by decide) (by decide) dL_removes_61 (fun H locs hP hD hS => ?_)
    have hP : va_P (dC, dI) vwCl [(a_q, .inl (cA, 5, .inl (upd f_q 4 ((f_q 4) + y4_10)))), (a_na, .inl (cA, 15, .inl f_na_3)), (a_ho, .inl (cA, 15, .inl f_ho_E10))] H := hP
    have hD : va_D A [(a_q, .inl (cA, 5, .inl (upd f_q 4 ((f_q 4) + y4_10)))), (a_na, .inl (cA, 15, .inl f_na_3)), (a_ho, .inl (cA, 15, .inl f_ho_E10))] := hD
    refine lv_iload hx hb dL_removes_62 (lv_at hl 3 rfl) ?_
    cases hm
    exact mu_iret hx hb hr rfl rfl hP hD hS hK [0, 1, 2] rfl (by decide) dL_removes_64 hlocks
