/-! The law's own body: what holds at each of its steps, its calls, its reads of the script. -/
abbrev frA (s : State) : Nat → Prop := fun q => s.heap.size ≤ q
abbrev XT2 (cA cQ : ClassId) : xTy := [(cA, .int), (cQ, .object "RoadNames$State")]
/-- what stands fixed while the law runs -/
def lw_C (p : Program) (l : Launch) (s : State) (m : MethodId) (meth : Method) (c : Code) (b L : Nat) (xs : Nat → Int32) (dC : Nat → ClassId) (dI : Nat → Nat → Nat) (cA cQ : ClassId) : Prop :=
  p.tables.exec = Jvm.exec ∧ c.code = cL_law ∧ meth.sig.returnType = some .boolean ∧ c.maxLocals = 16 ∧ s.vm.findClass RL = some m.cls ∧ (∀ w ∈ wsL_law, w.before #[Value.ref b] s = true) ∧ meth.locks = false ∧ l.stackTraces = false ∧ xE s ∧ xN2 s ∧ va_K (dC, dI) vwCl (XT2 cA cQ) s ∧ va_X b L xs s s.heap ∧ b < s.heap.size ∧ L ≤ 260
/-- a method that looks at the script alone -/
def scpc (b L : Nat) (xs : Nat → Int32) (av : List Value) : Array Value → State → Prop := fun v U => v = av.toArray ∧ va_X b L xs U U.heap ∧ b < U.heap.size
theorem scpc_blind {b L : Nat} {xs : Nat → Int32} {av : List Value} : FrameBlind (scpc b L xs av) := fun a U g mk q => ⟨q.1, q.2.1.moved (u := U) (U := U.calling g mk a) (Vm.Alike.refl U.vm), q.2.2⟩
section XL
variable {p : Program} {l : Launch} {e : Env} {R : Room} {s : State} {m : MethodId} {args : Array Value} {below : List Frame} {meth : Method} {c : Code} {H : Heap} {locs : List Loc} {cells slots mc1 ms1 : Nat} {Q : State → Prop}
variable {y : MethodName} {bytes cc : ByteArray} {maxL nL n index : Nat} {ret : Option FieldType} {ws' Ts : List Cond} {rm : Room} {own C : String} {b : Addr} {As rest st0 : List Value} {pc : Nat} {ls : Array Slot}
variable {D : va_G} {tys : xTy} {ws wc wr w1 : va_W} {ci : Nat} {fs : List Value} {T : u_T} {N : Nat} {A : Nat → Prop} {hh : List (Nat × Nat × Nat × Nat)}
theorem l_callS {v : Int32} (S : CallFix p m c cc nL s args Ts own) (hM : vx_Met l y ws' rm (lpc D tys wc As H.size) (mqi D tys (va_A wc H.size) w1 (fun x => x = v)) (fun _ _ _ => False) mc1 ms1 (va_A wc H.size)) (cw : vx_CSW R s args own index y bytes maxL ret hh ws' rm mc1 ms1 n) (hE : xE s) (hN : xN2 s)
    (hP : va_P D vwCl ws H) (hD : va_D (frA s) ws) (hS : va_S (frA s) s.heap H locs) (hK : va_K D vwCl tys s) (isC isR : List Nat) (hC : isC.map (fun i => ws[i]?) = wc.map some) (hR : isR.map (fun i => ws[i]?) = wr.map some) (hnC : va_nd isC = true) (hnR : va_nd isR = true) (hdis : ∀ i ∈ isR, i ∉ isC)
    (hn : As.length = n) (hsz : ls.size = nL) (hst : st0 = As.reverse ++ rest) (hW : (rest.map fun v => v.category).sum ≤ 8) (hdg : decode cc pc = .ok (.invokestatic index, 3)) (hf : cells + mc1 ≤ R.cells ∧ slots + ms1 ≤ R.slots)
    (kk : ∀ (H1 : Heap) (locs1 : List Loc), va_P D vwCl (wr ++ w1) H1 → va_D (frA s) (wr ++ w1) → va_S (frA s) s.heap H1 locs1 → W p l e R s m args below meth c H1 locs1 (cells + mc1) (slots + ms1) Q (F0 m (pc + 3) ls (.int v :: rest))) : W p l e R s m args below meth c H locs cells slots Q (F0 m pc ls st0) := by
  have hA : ∀ q, s.heap.size ≤ q → frA s q := fun q h => h
  have hPc : va_P D vwCl wc H := hP.sub isC (fm_of_map hC)
  have hDc := hD.sub isC hnC hC
  have hFc := va_free hD hS hA isC hC
  have hr := vx_runSX (p := p) (l := l) (e := e) (R := R) (below := below) (meth := meth) (locs := locs) (cells := cells) (slots := slots) (g := F0 m pc ls st0) (As := As) (rest := rest) S hM cw ⟨lpc_blind, fun U hU hW => ⟨⟨rfl, by rw [hU], by rw [hU]; exact hPc, va_K.moved hW.alike hK, hDc.weaken (fun _ _ _ _ => trivial)⟩, hE.at hS hU hW, hN.to hW.alike⟩⟩ rfl hn hsz hst (lv_room hW) hdg hf
  intro T hT X
  rcases hr T hT X with ⟨v9, st₀, t, T', L, g0, X', hL, e1, e2, ⟨⟨r, u, hv, hp, hB⟩, hF⟩, st⟩ | ⟨q, st₀, t, T', L, E, ce, g0, X', hL, e1, e2, hf9, hce, hcv, hcl, st⟩
  · cases hv
    have hp : r = v := hp
    subst hp
    obtain ⟨k1, k2, k3⟩ := vx_keep g0 e1 hS (fun q _ h => hFc q h) hFc hL hF
    obtain ⟨hP1, hK1, hD1⟩ := hB
    rw [← e1] at hP1
    obtain ⟨hP', hD'⟩ := va_join hP hD isC isR hC hR hnR hdis k2 hFc hP1 hD1
    obtain ⟨t2, a1, b1⟩ := kk T'.heap _ hP' hD' k3 T' rfl X'
    exact ⟨t2, st t2 a1, b1⟩
  · exact hf9.elim
theorem l_cell {L : Nat} {xs : Nat → Int32} {v : Int32} (S : CallFix p m c cc nL s args Ts own) (hM : Met l y ws' rm (scpc b L xs As) (vp_Si (fun x => x = v)) 0 0 (fun _ => False)) (cw : CallB R s args own index y bytes maxL ret ws' rm 0 0 n ∧ (Cond.static y).before args s = true)
    (hX : va_X b L xs s s.heap) (hbl : b < s.heap.size) (hS : va_S (frA s) s.heap H locs) (hn : As.length = n) (hsz : ls.size = nL) (hst : st0 = As.reverse ++ rest) (hW : (rest.map fun v => v.category).sum ≤ 8) (hdg : decode cc pc = .ok (.invokestatic index, 3)) (hf : cells ≤ R.cells ∧ slots ≤ R.slots)
    (kk : W p l e R s m args below meth c H locs cells slots Q (F0 m (pc + 3) ls (.int v :: rest))) : W p l e R s m args below meth c H locs cells slots Q (F0 m pc ls st0) :=
  vp_callSi (W.runS (As := As) (rest := rest) S hM cw ⟨scpc_blind, fun U hU hW => ⟨rfl, by rw [hU]; exact (hX.kept (hS.2.1 b hbl (Nat.not_le.mpr hbl))).moved hW.alike, by rw [hU]; exact Nat.lt_of_lt_of_le hbl hS.1⟩⟩ rfl hn hsz hst (lv_room hW) hdg hf) fun r hr => by subst hr; exact kk
end XL
abbrev rmL_cell : Room := { frames := 0, cells := 0, slots := 0, locals := 0 }
theorem hdL_cell : yL_cell.cls = RL ∧ yL_cell.cls ≠ "java/lang/invoke/MethodHandle" ∧ yL_cell.cls ≠ "java/lang/invoke/VarHandle" ∧ (parseMethodDescriptor yL_cell.desc).map (fun d => d.parameters.length) = some 2 := by decide +kernel
def mL_cell (n_s : Nat) (f_s : Nat → Int32) (p1 : Int32) : Option (Int32) :=
  (if (Int32.ofNat n_s) ≤ p1 then
    some ((747796405 * (p1 + 1)) + 528734635)
  else
    ((rdA n_s f_s p1).bind fun r8 =>
    some r8))
set_option maxHeartbeats 4000000 in
set_option maxRecDepth 100000 in
theorem kL_cell (l : Launch) (b n_s : Nat) (f_s : Nat → Int32) (p1 r : Int32) (hL : n_s ≤ 260) (hm : mL_cell n_s f_s p1 = some r) : Met l yL_cell wsL_cell rmL_cell (scpc b n_s f_s [.ref b, .int p1]) (vp_Si (fun x => x = r)) 0 0 (fun _ => False) := by
  unfold mL_cell at hm
  refine ro_ofW0 (cc := cL_cell) (maxL := 2) (ret := (some .int)) (own := RL) (by decide) rfl rfl (Nat.le_of_ble_eq_true rfl) (fun _ _ h => h.1) ?_
  intro p e s m args below meth c hx hb hr hts hown hlocks hml _ hPc ls hl
  obtain ⟨-, hX, hbl⟩ := hPc
  have hl : lv_has ls 2 [(0, .ref b), (1, .int p1)] := hl
  have hS : va_S (frA s) s.heap s.heap [] := va_S.rf
  refine lv_iload_n hx hb dL_cell_0 rfl (lv_at hl 1 rfl) ?_
  refine lv_aload_n hx hb dL_cell_1 rfl (lv_at hl 0 rfl) ?_
  refine va_slen hx hb hX hbl (Nat.not_le.mpr hbl) hS dL_cell_2 ?_
  refine lv_icmp_ge (tgt := 12) hx hb dL_cell_3 (by decide) (fun c3 => ?_) (fun c3 => ?_)
  · rw [if_pos c3] at hm
    refine lv_ldc (v := 747796405) hx hb hown (hts _ (List.mem_of_getElem? (i := 1) rfl)) dL_cell_12 ?_
    refine lv_iload_n hx hb dL_cell_14 rfl (lv_at hl 1 rfl) ?_
    refine lv_iconst (v := 1) hx hb dL_cell_15 (by decide) ?_
    refine lv_iadd hx hb dL_cell_16 ?_
    refine lv_imul hx hb dL_cell_17 ?_
    refine lv_ldc (v := 528734635) hx hb hown (hts _ (List.mem_of_getElem? (i := 2) rfl)) dL_cell_18 ?_
    refine lv_iadd hx hb dL_cell_20 ?_
    have hm := Option.some.inj hm
    exact ro_iret hx hb hr rfl hm dL_cell_21 hlocks
  · rw [if_neg c3] at hm
    obtain ⟨r8, e8, hm⟩ := bs hm
    obtain ⟨h1, h2⟩ := rdA_some e8
    refine lv_aload_n hx hb dL_cell_6 rfl (lv_at hl 0 rfl) ?_
    refine lv_iload_n hx hb dL_cell_7 rfl (lv_at hl 1 rfl) ?_
    refine va_sld hx hb hX hbl (Nat.not_le.mpr hbl) hS h1 dL_cell_8 ?_
    refine lv_goto (tgt := 21) hx hb dL_cell_9 (by decide) ?_
    cases hm
    subst h2
    exact ro_iret hx hb hr rfl rfl dL_cell_21 hlocks
