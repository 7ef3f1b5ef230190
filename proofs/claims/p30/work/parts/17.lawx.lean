/-! The law's own helpers: a call that is tried, its answer kept, its exceptions counted. -/
def xN2 (U : State) : Prop := va_Nc "java/lang/IllegalStateException" "java/lang/IllegalArgumentException" U ∧ True
theorem xN2.to {s U : State} (hvm : s.vm.Alike U.vm) (h : xN2 s) : xN2 U := ⟨va_Nc.moved hvm h.1, trivial⟩
def lpc (D : va_G) (tys : xTy) (ws : va_W) (av : List Value) (sz : Nat) : Array Value → State → Prop := fun v U => mpc D tys ws av sz v U ∧ xE U ∧ xN2 U
theorem lpc_blind {D : va_G} {tys : xTy} {ws : va_W} {av : List Value} {sz : Nat} : FrameBlind (lpc D tys ws av sz) := fun a U g mk q => ⟨mpc_blind a U g mk q.1, q.2.1.blind, q.2.2.to (s := U) (U := U.calling g mk a) (Vm.Alike.refl U.vm)⟩
/-- the environment of a throw, seen from a later heap -/
theorem xE.at {s U : State} {H : Heap} {locs : List Loc} (h : xE s) (hS : va_S (fun q => s.heap.size ≤ q) s.heap H locs) (hU : U.heap = H) (hW : s.WarmedH U.vm) : xE U := by
  obtain ⟨h1, h2, h3, h4, h5⟩ := h
  have hq : ∀ a : Nat, a < s.heap.size → ¬ (fun q => s.heap.size ≤ q) a → H[a]? = s.heap[a]? := fun a h1 h2 => hS.2.1 a h1 h2
  refine ⟨?_, ?_, fun q hq => ?_, fun x hx => va_Nw.warmD hW (h4 x hx), fun x hx => ?_⟩
  · rw [hU]
    exact vx_Zq.moved hW.alike (vx_Zq.narrow (h1.kept hq) (fun q hq => Nat.le_trans hS.1 hq))
  · rw [hU]
    exact vx_Zq.moved hW.alike (vx_Zq.narrow (h2.kept hq) (fun q hq => Nat.le_trans hS.1 hq))
  · obtain ⟨sa, h⟩ := h3 q hq
    exact ⟨sa, vk_R.warm hW h⟩
  · exact va_tabs rfl (rfl : (s.setVm U.vm).vm = U.vm) (by rw [Cond.castable_setVm hW.alike]; exact h5 x hx)
section XH
variable {l : Launch} {y : MethodName} {ws ws' : List Cond} {rm : Room} {cc : ByteArray} {maxL mc ms : Nat} {ret : Option FieldType} {D : va_G} {tys : xTy} {wc w1 : va_W} {av : List Value} {own : String} {XC : String → State → State → Prop} {hh : List (Nat × Nat × Nat × Nat)} {sz : Nat} {Qc : (Nat → Prop) → Array Value → State → Outcome → State → Prop}
theorem l_ofW (hy : plainName y.cls = true) (hw : ws = Cond.codeWith y cc maxL ret hh :: ws') (hcls : y.cls = own) (hn : (lg_sl av).length ≤ maxL)
    (body : ∀ (p : Program) (e : Env) (s : State) (m : MethodId) (args : Array Value) (below : List Frame) (meth : Method) (c : Code), p.tables.exec = Jvm.exec → c.code = cc → meth.sig.returnType = ret → (∀ w ∈ ws, w.before args s = true) → s.vm.findClass own = some m.cls → meth.locks = false → c.maxLocals = maxL → c.exceptionTable.toList = tableOf hh → xE s → xN2 s → ∀ A : Nat → Prop, (∀ q, s.heap.size ≤ q → A q) → va_P D vwCl wc s.heap → va_D A wc → va_S A s.heap s.heap [] → va_K D vwCl tys s → ∀ ls : Array Slot, lv_has ls maxL (lv_args 0 av) →
      W p l e (headSpec ws rm).room s m args below meth c s.heap [] 0 0 (vx_MQ below (Qc A) XC args s mc ms A) (F0 m 0 ls [])) : vx_Met l y ws rm (lpc D tys wc av sz) (Qc (va_A wc sz)) XC mc ms (va_A wc sz) := by
  refine vx_ofWH (cc := cc) (maxL := maxL) (ret := ret) (hh := hh) hy hw ?_
  intro p e s m args below meth c s₁ B hml hv
  subst hcls
  obtain ⟨⟨rfl, hsz, hP, hK, hD0⟩, hE, hN⟩ := hv
  subst hsz
  have hl := lv_entry av (n := maxL) hn
  rw [lg_entry_eq]
  have hts := atoms_spec (ws := ws) B.pre
  exact body p e s m _ below meth c B.exec B.bytes B.returns hts (findClass_of_methodNamed B.named) B.notSynchronized hml (vx_table (x := y) B (hts _ (by rw [hw]; exact List.mem_cons_self))) hE hN (va_A wc s.heap.size) (fun q h => Or.inr h) hP hD0.self va_S.rf hK _ hl
end XH
section XM
variable {p : Program} {l : Launch} {e : Env} {R : Room} {s : State} {m : MethodId} {args : Array Value} {below : List Frame} {meth : Method} {c : Code} {H : Heap} {locs : List Loc} {cells slots mc ms mc1 ms1 : Nat} {Q : State → Prop}
variable {y : MethodName} {bytes cc : ByteArray} {maxL nL n index : Nat} {ret : Option FieldType} {ws' Ts : List Cond} {rm : Room} {own C : String} {b : Addr} {As rest st0 : List Value} {pc : Nat} {ls : Array Slot}
variable {D : va_G} {tys tys2 : xTy} {ws wc wr w1 : va_W} {ci : Nat} {fs : List Value} {T : u_T} {N : Nat} {A : Nat → Prop} {k v : Int32} {hh : List (Nat × Nat × Nat × Nat)}
theorem l_callM (S : CallFix p m c cc nL s args Ts own) (hM : vx_Met l y ws' rm (xmpc D tys wc (.ref b :: As) s.heap.size) (xQ k (mqi D tys (va_A wc s.heap.size) w1 (fun x => x = v))) (xC k) mc1 ms1 (va_A wc s.heap.size)) (cw : CallW R s args own C index y bytes maxL ret ws' rm mc1 ms1 n) (hE : xE s)
    (hP : va_P D vwCl ws s.heap) (hD : va_D A ws) (hA : ∀ q, s.heap.size ≤ q → A q) (hK : va_K D vwCl tys s) (isC isR : List Nat) (hC : isC.map (fun i => ws[i]?) = wc.map some) (hR : isR.map (fun i => ws[i]?) = wr.map some) (hnC : va_nd isC = true) (hnR : va_nd isR = true) (hdis : ∀ i ∈ isR, i ∉ isC)
    (h0 : wc[0]? = some (b, .inr (ci, fs))) (hc : vwCl[ci]? = some (C, T, N)) (hn : As.length = n) (hsz : ls.size = nL) (hst : st0 = As.reverse ++ .ref b :: rest) (hW : (rest.map fun v => v.category).sum ≤ 8) (hdg : decode cc pc = .ok (.invokevirtual index, 3)) (hf : cells + mc1 ≤ R.cells ∧ slots + ms1 ≤ R.slots)
    (kx : ¬ k = 0 → ∀ (H1 : Heap) (q9 : Nat) (ce : Cell), s.heap.size ≤ H1.size → (∀ q : Nat, q < s.heap.size → H1[q]? = s.heap[q]?) → H1[q9]? = some ce → ce.vm = .none → s.vm.findClass (xnm k) = some ce.cls → ∀ locs1 : List Loc, va_S A s.heap H1 locs1 → vx_W p l e R s m args below meth c H1 locs1 (cells + mc1) (slots + ms1) Q (F0 m pc ls rest) q9)
    (kk : k = 0 → ∀ (H1 : Heap) (locs1 : List Loc), va_P D vwCl (wr ++ w1) H1 → va_D A (wr ++ w1) → va_S A s.heap H1 locs1 → W p l e R s m args below meth c H1 locs1 (cells + mc1) (slots + ms1) Q (F0 m (pc + 3) ls (.int v :: rest))) : W p l e R s m args below meth c s.heap [] cells slots Q (F0 m pc ls st0) := by
  have hPc : va_P D vwCl wc s.heap := hP.sub isC (fm_of_map hC)
  have hDc := hD.sub isC hnC hC
  have hS : va_S A s.heap s.heap [] := va_S.rf
  have hFc := va_free hD hS hA isC hC
  have hr := vx_runV (p := p) (l := l) (e := e) (R := R) (below := below) (meth := meth) (locs := []) (cells := cells) (slots := slots) (g := F0 m pc ls st0) (As := As) (rest := rest) S hM cw ⟨xmpc_blind, va_recv hK hPc hc h0, fun U hU hW => ⟨⟨rfl, by rw [hU], by rw [hU]; exact hPc, va_K.moved hW.alike hK, hDc.weaken (fun _ _ _ _ => trivial)⟩, hE.to hW hU⟩⟩ rfl hn hsz hst (lv_room hW) hdg hf
  intro T hT X
  rcases hr T hT X with ⟨v9, st₀, t, T', L, g0, X', hL, e1, e2, ⟨hk, ⟨r, u, hv, hp, hB⟩, hF⟩, st⟩ | ⟨q, st₀, t, T', L, E, ce, g0, X', hL, e1, e2, ⟨hE1, hk, hz, hq⟩, hce, hcv, hcl, st⟩
  · cases hv
    have hp : r = v := hp
    subst hp
    obtain ⟨k1, k2, k3⟩ := vx_keep g0 e1 hS (fun q _ h => hFc q h) hFc hL hF
    obtain ⟨hP1, hK1, hD1⟩ := hB
    rw [← e1] at hP1
    obtain ⟨hP', hD'⟩ := va_join hP hD isC isR hC hR hnR hdis k2 hFc hP1 hD1
    obtain ⟨t2, a1, b1⟩ := kk hk T'.heap _ hP' hD' k3 T' rfl X'
    exact ⟨t2, st t2 a1, b1⟩
  · rw [g0] at hz hq
    have hS1 : va_S A s.heap T'.heap ([] ++ L) := ⟨by rw [e1]; exact hz, fun q h _ => by rw [e1]; exact hq q h, fun z hz => hFc _ (hL z (by simpa using hz))⟩
    obtain ⟨t2, a1, b1⟩ := kx hk T'.heap q ce (by rw [e1]; exact hz) (fun q h => by rw [e1]; exact hq q h) (by rw [e1]; exact hce) hcv (by rw [← hE1]; exact hcl) _ hS1 T' rfl X'
    exact ⟨t2, st.trans a1, b1⟩
/-- caught by the first row of the table, or by the second -/
theorem l_catch1 {E : String} {H1 : Heap} {q9 : Nat} {ce : Cell} {x : ExceptionTableEntry} {suf : List ExceptionTableEntry} (hown : s.vm.findClass own = some m.cls) (htab : c.exceptionTable.toList = x :: suf) (hcov : covers x pc = true) (h0 : x.catchType ≠ 0) (hlink : (Cond.classLink own x.catchType E).before args s = true) (hE : xE s) (hX : E ∈ xCs) (hce : H1[q9]? = some ce) (hcv : ce.vm = .none) (hcl : s.vm.findClass E = some ce.cls)
    (kk : W p l e R s m args below meth c H1 locs cells slots Q (F0 m x.handlerPc ls [.ref q9])) : vx_W p l e R s m args below meth c H1 locs cells slots Q (F0 m pc ls rest) q9 :=
  vx_catch hown [] x suf htab (fun _ h => absurd h List.not_mem_nil) hcov h0 hlink (va_Nw.use rfl (hE.2.2.2.2 _ hX)) hce hcv hcl kk
theorem l_catch2 {E E1 : String} {H1 : Heap} {q9 : Nat} {ce : Cell} {x1 x : ExceptionTableEntry} {suf : List ExceptionTableEntry} (hown : s.vm.findClass own = some m.cls) (htab : c.exceptionTable.toList = x1 :: x :: suf) (h01 : x1.catchType ≠ 0) (hlink1 : (Cond.classLink own x1.catchType E1).before args s = true) (hN : va_Nc E E1 s) (hcov : covers x pc = true) (h0 : x.catchType ≠ 0) (hlink : (Cond.classLink own x.catchType E).before args s = true) (hE : xE s) (hX : E ∈ xCs) (hce : H1[q9]? = some ce) (hcv : ce.vm = .none) (hcl : s.vm.findClass E = some ce.cls)
    (kk : W p l e R s m args below meth c H1 locs cells slots Q (F0 m x.handlerPc ls [.ref q9])) : vx_W p l e R s m args below meth c H1 locs cells slots Q (F0 m pc ls rest) q9 :=
  vx_catch hown [x1] x suf htab (fun z hz => by
    rw [List.mem_singleton.mp hz]
    exact Or.inr ⟨h01, E1, hlink1, hN⟩) hcov h0 hlink (va_Nw.use rfl (hE.2.2.2.2 _ hX)) hce hcv hcl kk
theorem l_ret {XC : String → State → State → Prop} {Qc : Array Value → State → Outcome → State → Prop} {free : Addr → Prop} {g : JFrame} (h1 : cells ≤ mc) (h2 : slots ≤ ms) (h : W p l e R s m args below meth c H locs mc ms (MQ below Qc args s mc ms free) g) : W p l e R s m args below meth c H locs cells slots (vx_MQ below Qc XC args s mc ms free) g := W.widen h1 h2 (vx_ret h)
theorem l_keptP {D : va_G} {ws : va_W} {s : State} {H1 : Heap} (hP : va_P D vwCl ws s.heap) (hq : ∀ q : Nat, q < s.heap.size → H1[q]? = s.heap[q]?) : va_P D vwCl ws H1 := hP.kept fun k q hk => hq q.1 (hP k q hk).lt
end XM
