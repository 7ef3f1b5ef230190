/-! Constructors: what they make, at addresses that come with the world. -/
theorem cA_ra {U : State} {c c2 : ClassId} {ty : FieldType} (h : va_RA U c ty) (h2 : va_RA U c2 ty) : c2 = c := by
  cases ty with
  | object C =>
    obtain ⟨_, _, _, _, _, e⟩ := h
    obtain ⟨_, _, _, _, _, e2⟩ := h2
    exact Option.some.inj (e2.symm.trans e)
  | _ => exact Option.some.inj (Eq.trans (Eq.symm h2) h)
theorem cA_eq {D : va_G} {cl : List vw_C} {tys : xTy} {c c2 : ClassId} {ty : FieldType} {U : State} (h : va_K D cl (tys ++ [(c2, ty)]) U) (k : Nat) (h1 : tys[k]? = some (c, ty)) : c2 = c := by
  have a := (h.2 tys.length (c2, ty) (by rw [List.getElem?_append_right (Nat.le_refl _), Nat.sub_self]; rfl)).2
  have b := (h.2 k (c, ty) (by rw [List.getElem?_append_left (List.getElem?_eq_some_iff.mp h1).1]; exact h1)).2
  exact cA_ra b a
abbrev iB {S9 : Type} (D : va_G) (tys : xTy) (A : Nat → Prop) (w1 : S9 → va_W) : Array Value → State → Outcome → State → Prop := va_Qv (S := S9) (fun _ => True) (fun u t => va_P D vwCl (w1 u) t.heap ∧ va_K D vwCl tys t ∧ va_D A (w1 u)) A
section XI
variable {p : Program} {l : Launch} {e : Env} {R : Room} {s : State} {m : MethodId} {args : Array Value} {below : List Frame} {meth : Method} {c : Code} {H : Heap} {locs : List Loc} {cells slots mc1 ms1 : Nat} {Q : State → Prop}
variable {y : MethodName} {bytes cc : ByteArray} {maxL nL n index : Nat} {ws' Ts : List Cond} {rm : Room} {own : String} {b : Addr} {As rest st0 : List Value} {pc : Nat} {ls : Array Slot}
variable {D : va_G} {tys : xTy} {ws wc wr : va_W} {A : Nat → Prop} {S9 : Type} {w1 : S9 → va_W}
theorem mu_callI (S : CallFix p m c cc nL s args Ts own) (hM : Met l y ws' rm (mpc D tys wc (.ref b :: As) H.size) (iB D tys (va_A wc H.size) w1) mc1 ms1 (va_A wc H.size)) (cw : CallB R s args own index y bytes maxL none ws' rm mc1 ms1 n ∧ y.name = "<init>" ∧ (Cond.instanceMethod y).before args s = true)
    (hP : va_P D vwCl ws H) (hD : va_D A ws) (hS : va_S A s.heap H locs) (hA : ∀ q, s.heap.size ≤ q → A q) (hK : va_K D vwCl tys s) (isC isR : List Nat) (hC : isC.map (fun i => ws[i]?) = wc.map some) (hR : isR.map (fun i => ws[i]?) = wr.map some) (hnC : va_nd isC = true) (hnR : va_nd isR = true) (hdis : ∀ i ∈ isR, i ∉ isC)
    (hn : As.length = n) (hsz : ls.size = nL) (hst : st0 = As.reverse ++ .ref b :: rest) (hW : (rest.map fun v => v.category).sum ≤ 8) (hdg : decode cc pc = .ok (.invokespecial index, 3)) (hf : cells + mc1 ≤ R.cells ∧ slots + ms1 ≤ R.slots)
    (kk : ∀ (u : S9) (H1 : Heap) (locs1 : List Loc), va_P D vwCl (wr ++ w1 u) H1 → va_D A (wr ++ w1 u) → va_S A s.heap H1 locs1 → W p l e R s m args below meth c H1 locs1 (cells + mc1) (slots + ms1) Q (F0 m (pc + 3) ls rest)) : W p l e R s m args below meth c H locs cells slots Q (F0 m pc ls st0) := by
  have hPc : va_P D vwCl wc H := hP.sub isC (fm_of_map hC)
  have hDc := hD.sub isC hnC hC
  have hFc := va_free hD hS hA isC hC
  refine va_callv (va_runI (As := As) (rest := rest) S hM cw ⟨mpc_blind, fun U hU hW => ⟨rfl, by rw [hU], by rw [hU]; exact hPc, va_K.moved hW.alike hK, hDc.weaken (fun _ _ _ _ => trivial)⟩⟩ rfl hn hsz hst (lv_room hW) hdg hf) hS (fun q _ h => hFc q h) hFc (fun u t H1 locs1 ht hvm hp hB hz1 hk1 hS => ?_)
  obtain ⟨hP1, hK1, hD1⟩ := hB
  rw [ht] at hP1
  obtain ⟨hP', hD'⟩ := va_join hP hD isC isR hC hR hnR hdis hk1 hFc hP1 hD1
  exact kk u H1 locs1 hP' hD' hS
theorem mu_callIN {host : String} (S : CallFix p m c cc nL s args Ts own) (hM : Met l y ws' rm (mpc D tys wc (.ref b :: As) H.size) (iB D tys (va_A wc H.size) w1) mc1 ms1 (va_A wc H.size)) (cw : va_CN R s args own index y host bytes maxL none ws' rm mc1 ms1 n ∧ y.name = "<init>" ∧ (Cond.instanceMethod y).before args s = true)
    (hP : va_P D vwCl ws H) (hD : va_D A ws) (hS : va_S A s.heap H locs) (hA : ∀ q, s.heap.size ≤ q → A q) (hK : va_K D vwCl tys s) (isC isR : List Nat) (hC : isC.map (fun i => ws[i]?) = wc.map some) (hR : isR.map (fun i => ws[i]?) = wr.map some) (hnC : va_nd isC = true) (hnR : va_nd isR = true) (hdis : ∀ i ∈ isR, i ∉ isC)
    (hn : As.length = n) (hsz : ls.size = nL) (hst : st0 = As.reverse ++ .ref b :: rest) (hW : (rest.map fun v => v.category).sum ≤ 8) (hdg : decode cc pc = .ok (.invokespecial index, 3)) (hf : cells + mc1 ≤ R.cells ∧ slots + ms1 ≤ R.slots)
    (kk : ∀ (u : S9) (H1 : Heap) (locs1 : List Loc), va_P D vwCl (wr ++ w1 u) H1 → va_D A (wr ++ w1 u) → va_S A s.heap H1 locs1 → W p l e R s m args below meth c H1 locs1 (cells + mc1) (slots + ms1) Q (F0 m (pc + 3) ls rest)) : W p l e R s m args below meth c H locs cells slots Q (F0 m pc ls st0) := by
  have hPc : va_P D vwCl wc H := hP.sub isC (fm_of_map hC)
  have hDc := hD.sub isC hnC hC
  have hFc := va_free hD hS hA isC hC
  refine va_callv (va_runIN (As := As) (rest := rest) S hM cw ⟨mpc_blind, fun U hU hW => ⟨rfl, by rw [hU], by rw [hU]; exact hPc, va_K.moved hW.alike hK, hDc.weaken (fun _ _ _ _ => trivial)⟩⟩ rfl hn hsz hst (lv_room hW) hdg hf) hS (fun q _ h => hFc q h) hFc (fun u t H1 locs1 ht hvm hp hB hz1 hk1 hS => ?_)
  obtain ⟨hP1, hK1, hD1⟩ := hB
  rw [ht] at hP1
  obtain ⟨hP', hD'⟩ := va_join hP hD isC isR hC hR hnR hdis hk1 hFc hP1 hD1
  exact kk u H1 locs1 hP' hD' hS
theorem mu_vretI (u : S9) (hx : p.tables.exec = Jvm.exec) (hb : c.code = cc) (hr : meth.sig.returnType = none) (hP : va_P D vwCl ws H) (hD : va_D A ws) (hS : va_S A s.heap H locs) (hK : va_K D vwCl tys s) (is : List Nat) (hi : is.map (fun i => ws[i]?) = (w1 u).map some) (hnd : va_nd is = true) (hdg : decode cc pc = .ok (.return_, 1)) (hlocks : meth.locks = false) : W p l e R s m args below meth c H locs cells slots (MQ below (iB D tys A w1) args s cells slots A) (F0 m pc ls []) :=
  W.vret hx hb hr (fun t ht hW => ⟨⟨u, rfl, trivial, by rw [ht]; exact hP.sub is (fm_of_map hi), va_K.moved hW.alike hK, hD.sub is hnd hi⟩, hS.F ht⟩) hS.2.2 hdg hlocks
end XI
/-- a row of four places, by what stands in them -/
theorem vp_cell_4 (cA : ClassId) {f g : Nat → Option Nat} (h : ∀ j, j < 4 → f j = g j) : vp_cell cA (4, .inr (.inr (.inr (.inr f)))) = vp_cell cA (4, .inr (.inr (.inr (.inr g)))) := by
  rw [vp_cell_q, vp_cell_q]
  have e : ∀ (v w : Nat → Value), (∀ j, j < 4 → v j = w j) → arrV cA 4 v = arrV cA 4 w := by
    intro v w hvw
    have hf : (fun j : Fin 4 => v j) = fun j : Fin 4 => w j := funext fun j => hvw j.1 j.2
    unfold arrV
    simp only [hf]
  exact e _ _ fun j hj => by rw [h j hj]
theorem ring_P {D : va_G} {pre suf : va_W} {a : Nat} {cA : ClassId} {f g : Nat → Option Nat} {H : Heap} (hP : va_P D vwCl (pre ++ (a, .inl (cA, 4, .inr (.inr (.inr (.inr f))))) :: suf) H) (h : ∀ j, j < 4 → f j = g j) : va_P D vwCl (pre ++ (a, .inl (cA, 4, .inr (.inr (.inr (.inr g))))) :: suf) H := by
  intro k q hk
  by_cases e : k = pre.length
  · subst e
    rw [List.getElem?_append_right (Nat.le_refl _), Nat.sub_self] at hk
    cases hk
    have := hP pre.length (a, .inl (cA, 4, .inr (.inr (.inr (.inr f))))) (by rw [List.getElem?_append_right (Nat.le_refl _), Nat.sub_self]; rfl)
    show H[a]? = some (vp_cell cA (4, .inr (.inr (.inr (.inr g)))))
    rw [← vp_cell_4 cA h]
    exact this
  · refine hP k q ?_
    rcases Nat.lt_or_ge k pre.length with h1 | h1
    · rw [List.getElem?_append_left h1] at hk ⊢
      exact hk
    · rw [List.getElem?_append_right h1] at hk ⊢
      obtain ⟨j, hj⟩ : ∃ j, k - pre.length = j + 1 := ⟨k - pre.length - 1, by omega⟩
      rw [hj] at hk ⊢
      exact hk
theorem ring_D {A : Nat → Prop} {pre suf : va_W} {a : Nat} {e e2 : va_E} (hD : va_D A (pre ++ (a, e) :: suf)) : va_D A (pre ++ (a, e2) :: suf) := by
  have h := hD.set (p := pre.length) (a := a) (e0 := e) (e := e2) (by rw [List.getElem?_append_right (Nat.le_refl _), Nat.sub_self]; rfl)
  rw [List.set_append_right _ _ (Nat.le_refl _), Nat.sub_self] at h
  exact h
abbrev rmX3_init (n : Nat) : Room := { frames := 1, cells := 1, slots := n, locals := 21 }
theorem iX3_init_X3 : ∀ w ∈ wsX30, w ∈ wsX3_init := (fun _ h => List.mem_cons_of_mem _ (List.mem_append_right _ h))
theorem hdX3_init : yX3_init.cls ≠ "java/lang/invoke/MethodHandle" ∧ yX3_init.cls ≠ "java/lang/invoke/VarHandle" ∧ (parseMethodDescriptor yX3_init.desc).map (fun d => d.parameters.length) = some 1 := by decide +kernel
set_option maxHeartbeats 4000000 in
set_option maxRecDepth 100000 in
theorem kX3_init (l : Launch) (dC : Nat → ClassId) (dI : Nat → Nat → Nat) (cA : ClassId) (a_t : Nat) (n : Nat) (hn : n < 2 ^ 20) (sz : Nat) : Met l yX3_init wsX3_init (rmX3_init n) (mpc (dC, dI) [(cA, .int)] [(a_t, .inr (2, [.null]))] [.ref a_t, .int (nI n)] sz) (iB (S9 := Nat) (dC, dI) [(cA, .int)] (va_A [(a_t, .inr (2, [.null]))] sz) (fun a => [(a_t, .inr (2, [.ref a])), (a, .inl (cA, n, .inl (fun _ => 0)))])) 1 n (va_A [(a_t, .inr (2, [.null]))] sz) := by
  refine mu_ofW (Qc := fun A => iB (S9 := Nat) (dC, dI) [(cA, .int)] A (fun a => [(a_t, .inr (2, [.ref a])), (a, .inl (cA, n, .inl (fun _ => 0)))])) (cc := cX3_init) (maxL := 2) (ret := none) (own := RX3) (by decide) rfl rfl (Nat.le_of_ble_eq_true rfl) ?_
  intro p e s m args below meth c hx hb hr hts hown hlocks hml hin A hA hP hD hS hK ls hl
  have hl : lv_has ls 2 [(0, .ref a_t), (1, .int (nI n))] := hl
  have hin : meth.name = "<init>" := hin
  refine lv_aload_n hx hb dX3_init_0 rfl (lv_at hl 0 rfl) ?_
  refine W.objInit hx hb hown (hts (.methodLink RX3 1 objectInit) (List.mem_of_getElem? (i := 1) rfl)) (hts (.instanceMethod objectInit) (List.mem_of_getElem? (i := 2) rfl)) (hts _ (List.mem_of_getElem? (i := 3) rfl)) rfl (by rw [hml]; exact hl.1) rfl dX3_init_1 (Nat.le_of_ble_eq_true rfl) (Nat.le_of_ble_eq_true rfl) ?_
  refine W.eq (g2 := F0 m 4 ls []) rfl ?_
  refine lv_aload_n hx hb dX3_init_4 rfl (lv_at hl 0 rfl) ?_
  refine lv_iload_n hx hb dX3_init_5 rfl (lv_at hl 1 rfl) ?_
  refine lv_iconst (v := 0) hx hb dX3_init_6 (by decide) ?_
  refine va_mmax hx hb (hml.trans hl.1.symm) hown (hts (.methodLink RX3 7 Lib.Math.max.name) (List.mem_of_getElem? (i := 4) rfl)) (hts (.static Lib.Math.max.name) (List.mem_of_getElem? (i := 5) rfl)) (hts (.initialized "java/lang/Math") (List.mem_of_getElem? (i := 6) rfl)) (hts (.code Lib.Math.max.name Lib.Math.max.code 2 (some .int)) (List.mem_of_getElem? (i := 7) rfl)) (Nat.le_of_ble_eq_true rfl) (Nat.le_of_ble_eq_true rfl) (Nat.zero_le _) (Nat.zero_le _) dX3_init_7 ?_
  have hn2 : n < 2 ^ 31 := by omega
  rw [if_neg (nI_pos hn2)]
  refine va_newa (atype := .int) (a0 := (n, .inl (fun _ => 0))) hx hb (hts (.arrayClass .int) (List.mem_of_getElem? (i := 8) rfl)) rfl hK hP hD hS hA (fun _ => rfl) (nI_pos hn2) (nI_clamp hn2) (by show n * 4 ≤ _; omega) (Nat.le_of_ble_eq_true rfl) (by show 0 + n ≤ n; omega) dX3_init_10 (fun q c9 H hK9 hP hD hS => ?_)
  obtain rfl := cA_eq hK9 0 rfl
  have hP : va_P (dC, dI) vwCl [(a_t, .inr (2, [.null])), (q, .inl (c9, n, .inl (fun _ => 0)))] H := hP
  have hD : va_D A [(a_t, .inr (2, [.null])), (q, .inl (c9, n, .inl (fun _ => 0)))] := hD
  refine va_putF (D := (dC, dI)) (ci := 2) (v := .ref q) (ty := .array .int) (C := RX3) (T := TX3) (N := 1) hx hb hts iX3_init_X3 tyX3 tyX3_ok nmX3 hown hK hP hD hS 0 rfl rfl 0 (by decide) (hts (.fieldLink RX3 13 "RoadNames$Row" "cells" "[I") (List.mem_of_getElem? (i := 9) rfl)) (fun _ h9 => h9) rfl hin rfl (by decide +kernel) rfl rfl (Nat.le_of_ble_eq_true rfl) dX3_init_12 (fun H locs hP hD hS => ?_)
  refine W.widen (k := 1) (n := n) (by omega) (by omega) ?_
  exact mu_vretI q hx hb hr hP hD hS hK [0, 1] rfl (by decide) dX3_init_15 hlocks
/-- .. with an array of states among what is made -/
def xA (U : State) : Prop := va_AO "RoadNames$State" U ∧ va_Nw (.methodLinkNest RX7 28 yX1_init "RoadNames") U ∧ va_Nw (.methodLinkNest RX7 35 yX0_init "RoadNames") U
theorem xA.to {s U : State} (hW : s.WarmedH U.vm) (h : xA s) : xA U := ⟨va_AO.moved hW.alike h.1, va_Nw.warmM hW h.2.1, va_Nw.warmM hW h.2.2⟩
def mpcA (D : va_G) (tys : xTy) (ws : va_W) (av : List Value) (sz : Nat) : Array Value → State → Prop := fun v U => mpc D tys ws av sz v U ∧ xA U
theorem mpcA_blind {D : va_G} {tys : xTy} {ws : va_W} {av : List Value} {sz : Nat} : FrameBlind (mpcA D tys ws av sz) := fun a U g mk q => ⟨mpc_blind a U g mk q.1, xA.to (s := U) (U := U.calling g mk a) (State.WarmedH.refl U) q.2⟩
theorem mu_ofWA {l : Launch} {y : MethodName} {ws ws' : List Cond} {rm : Room} {cc : ByteArray} {maxL : Nat} {ret : Option FieldType} {D : va_G} {tys : xTy} {wc : va_W} {av : List Value} {own : String} {sz : Nat} {mc ms : Nat} {Qc : (Nat → Prop) → Array Value → State → Outcome → State → Prop} (hy : plainName y.cls = true) (hw : ws = Cond.code y cc maxL ret :: ws') (hcls : y.cls = own) (hn : (lg_sl av).length ≤ maxL)
    (body : ∀ (p : Program) (e : Env) (s : State) (m : MethodId) (args : Array Value) (below : List Frame) (meth : Method) (c : Code), p.tables.exec = Jvm.exec → c.code = cc → meth.sig.returnType = ret → (∀ w ∈ ws, w.before args s = true) → s.vm.findClass own = some m.cls → meth.locks = false → c.maxLocals = maxL → meth.name = y.name → ∀ A : Nat → Prop, (∀ q, s.heap.size ≤ q → A q) → va_P D vwCl wc s.heap → va_D A wc → va_S A s.heap s.heap [] → va_K D vwCl tys s → xA s → ∀ ls : Array Slot, lv_has ls maxL (lv_args 0 av) →
      W p l e (headSpec ws rm).room s m args below meth c s.heap [] 0 0 (MQ below (Qc A) args s mc ms A) (F0 m 0 ls [])) : Met l y ws rm (mpcA D tys wc av sz) (Qc (va_A wc sz)) mc ms (va_A wc sz) := by
  refine Met.ofW (cc := cc) (maxL := maxL) (ret := ret) hy hw ?_
  intro p e s m args below meth c s₁ B hml hv
  subst hcls
  obtain ⟨⟨rfl, hsz, hP, hK, hD0⟩, hAO⟩ := hv
  subst hsz
  have hl := lv_entry av (n := maxL) hn
  rw [lg_entry_eq]
  exact body p e s m _ below meth c B.exec B.bytes B.returns (atoms_spec (ws := ws) B.pre) (findClass_of_methodNamed B.named) B.notSynchronized hml (name_of_methodNamed B.named B.method).1 (va_A wc s.heap.size) (fun q h => Or.inr h) hP hD0.self va_S.rf hK hAO _ hl
theorem mu_callIQ {p : Program} {l : Launch} {e : Env} {R : Room} {s : State} {m : MethodId} {args : Array Value} {below : List Frame} {meth : Method} {c : Code} {H : Heap} {locs : List Loc} {cells slots mc1 ms1 : Nat} {Q : State → Prop} {y : MethodName} {bytes cc : ByteArray} {maxL nL n index : Nat} {ws' Ts : List Cond} {rm : Room} {own : String} {b : Addr} {As rest st0 : List Value} {pc : Nat} {ls : Array Slot} {D : va_G} {tys : xTy} {ws wc wr : va_W} {A : Nat → Prop} {S9 : Type} {w1 : S9 → va_W}
    (S : CallFix p m c cc nL s args Ts own) (hM : Met l y ws' rm (mpcA D tys wc (.ref b :: As) H.size) (iB D tys (va_A wc H.size) w1) mc1 ms1 (va_A wc H.size)) (cw : CallB R s args own index y bytes maxL none ws' rm mc1 ms1 n ∧ y.name = "<init>" ∧ (Cond.instanceMethod y).before args s = true)
    (hP : va_P D vwCl ws H) (hD : va_D A ws) (hS : va_S A s.heap H locs) (hA : ∀ q, s.heap.size ≤ q → A q) (hAO : xA s) (hK : va_K D vwCl tys s) (isC isR : List Nat) (hC : isC.map (fun i => ws[i]?) = wc.map some) (hR : isR.map (fun i => ws[i]?) = wr.map some) (hnC : va_nd isC = true) (hnR : va_nd isR = true) (hdis : ∀ i ∈ isR, i ∉ isC)
    (hn : As.length = n) (hsz : ls.size = nL) (hst : st0 = As.reverse ++ .ref b :: rest) (hW : (rest.map fun v => v.category).sum ≤ 8) (hdg : decode cc pc = .ok (.invokespecial index, 3)) (hf : cells + mc1 ≤ R.cells ∧ slots + ms1 ≤ R.slots)
    (kk : ∀ (u : S9) (H1 : Heap) (locs1 : List Loc), va_P D vwCl (wr ++ w1 u) H1 → va_D A (wr ++ w1 u) → va_S A s.heap H1 locs1 → W p l e R s m args below meth c H1 locs1 (cells + mc1) (slots + ms1) Q (F0 m (pc + 3) ls rest)) : W p l e R s m args below meth c H locs cells slots Q (F0 m pc ls st0) := by
  have hPc : va_P D vwCl wc H := hP.sub isC (fm_of_map hC)
  have hDc := hD.sub isC hnC hC
  have hFc := va_free hD hS hA isC hC
  refine va_callv (va_runI (As := As) (rest := rest) S hM cw ⟨mpcA_blind, fun U hU hW => ⟨⟨rfl, by rw [hU], by rw [hU]; exact hPc, va_K.moved hW.alike hK, hDc.weaken (fun _ _ _ _ => trivial)⟩, hAO.to hW⟩⟩ rfl hn hsz hst (lv_room hW) hdg hf) hS (fun q _ h => hFc q h) hFc (fun u t H1 locs1 ht hvm hp hB hz1 hk1 hS => ?_)
  obtain ⟨hP1, hK1, hD1⟩ := hB
  rw [ht] at hP1
  obtain ⟨hP', hD'⟩ := va_join hP hD isC isR hC hR hnR hdis hk1 hFc hP1 hD1
  exact kk u H1 locs1 hP' hD' hS
