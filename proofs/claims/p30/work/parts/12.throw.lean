/-! Methods of the class that throw: what they need of a start, how they end, how they are called. -/
def xI : String := "java/lang/IllegalArgumentException"
def xL : String := "java/lang/IllegalStateException"
def xO : String := "java/lang/IndexOutOfBoundsException"
def xN : List String := ["java/lang/RuntimeException", "java/lang/Exception"]
def xnm (k : Int32) : String := if k = 1 then "java/lang/IllegalArgumentException" else if k = 2 then "java/lang/IllegalStateException" else "java/lang/IndexOutOfBoundsException"
def xDl : List MethodName := [Bundle.initS "java/lang/RuntimeException", Bundle.initS "java/lang/Exception", Bundle.initS Bundle.tN]
def xCs : List String := ["java/lang/IllegalArgumentException", "java/lang/IllegalStateException", "java/lang/IndexOutOfBoundsException"]
def xSt : List (Nat × String) := [(60, "the name is in the town, or the town is full"), (98, "no house is there, or it cannot move in"), (106, "the prefix does not lie within a label"), (241, "a name has 1 to 8 letters"), (243, "the length is out of range"), (245, "the letters are out of range"), (247, "the weight is out of range"), (252, "the limit is out of range"), (254, "there is no such value"), (256, "the name is not in the town"), (260, "there are not so many names"), (263, "there are not so many houses")]
/-- what a throw needs of the state in which its method starts -/
def xE (U : State) : Prop := vx_Zq Bundle.tN "UNASSIGNED_STACK" Bundle.steD (fun q => U.heap.size ≤ q) U U.heap ∧ vx_Zq Bundle.tN "SUPPRESSED_SENTINEL" Bundle.listD (fun q => U.heap.size ≤ q) U U.heap ∧ (∀ q ∈ xSt, ∃ sa, vk_R RX7 q.1 q.2 sa U) ∧ (∀ x ∈ xDl, va_Nw (.declares x) U) ∧ (∀ x ∈ xCs, va_Nw (.castable x x) U)
theorem xE.to {s U : State} (hW : s.WarmedH U.vm) (hh : U.heap = s.heap) (h : xE s) : xE U := by
  obtain ⟨h1, h2, h3, h4, h5⟩ := h
  refine ⟨?_, ?_, fun q hq => ?_, fun x hx => va_Nw.warmD hW (h4 x hx), fun x hx => ?_⟩
  · rw [hh]; exact vx_Zq.moved hW.alike h1
  · rw [hh]; exact vx_Zq.moved hW.alike h2
  · obtain ⟨sa, h⟩ := h3 q hq
    exact ⟨sa, vk_R.warm hW h⟩
  · exact va_tabs rfl (rfl : (s.setVm U.vm).vm = U.vm) (by rw [Cond.castable_setVm hW.alike]; exact h5 x hx)
theorem xE.blind {U : State} {g : JFrame} {mk : MethodId} {a : Array Value} (h : xE U) : xE (U.calling g mk a) := xE.to (s := U) (U := U.calling g mk a) (State.WarmedH.refl U) rfl h
def xBd (X : String) : List Cond := [.declares (Bundle.initS "java/lang/RuntimeException"), .declares (Bundle.initS "java/lang/Exception"), .declares (Bundle.initS Bundle.tN), .castable X X]
theorem xBd_of {X : String} {s : State} {args : Array Value} (hX : X ∈ xCs) (h : xE s) : ∀ w ∈ xBd X, w.before args s = true :=
  vx_c (va_Nw.use rfl (h.2.2.2.1 _ (by simp [xDl]))) (vx_c (va_Nw.use rfl (h.2.2.2.1 _ (by simp [xDl]))) (vx_c (va_Nw.use rfl (h.2.2.2.1 _ (by simp [xDl]))) (vx_c (va_Nw.use rfl (h.2.2.2.2 _ hX)) vx_n)))
theorem xat_1 {s : State} {args : Array Value} (h1 : ∀ w ∈ (vx_atS RX7 181 "java/lang/IllegalArgumentException" ["java/lang/RuntimeException", "java/lang/Exception"]).filter goodWord, w.before args s = true) (h : xE s) : ∀ w ∈ vx_atS RX7 181 "java/lang/IllegalArgumentException" ["java/lang/RuntimeException", "java/lang/Exception"], w.before args s = true :=
  vx_hat h1 (by decide +kernel : ∀ w ∈ (vx_atS RX7 181 "java/lang/IllegalArgumentException" ["java/lang/RuntimeException", "java/lang/Exception"]).filter (fun w => !goodWord w), w ∈ xBd "java/lang/IllegalArgumentException") (xBd_of (by simp [xCs]) h)
theorem xat_2 {s : State} {args : Array Value} (h1 : ∀ w ∈ (vx_atS RX7 62 "java/lang/IllegalStateException" ["java/lang/RuntimeException", "java/lang/Exception"]).filter goodWord, w.before args s = true) (h : xE s) : ∀ w ∈ vx_atS RX7 62 "java/lang/IllegalStateException" ["java/lang/RuntimeException", "java/lang/Exception"], w.before args s = true :=
  vx_hat h1 (by decide +kernel : ∀ w ∈ (vx_atS RX7 62 "java/lang/IllegalStateException" ["java/lang/RuntimeException", "java/lang/Exception"]).filter (fun w => !goodWord w), w ∈ xBd "java/lang/IllegalStateException") (xBd_of (by simp [xCs]) h)
theorem xat_3 {s : State} {args : Array Value} (h1 : ∀ w ∈ (vx_atS RX7 262 "java/lang/IndexOutOfBoundsException" ["java/lang/RuntimeException", "java/lang/Exception"]).filter goodWord, w.before args s = true) (h : xE s) : ∀ w ∈ vx_atS RX7 262 "java/lang/IndexOutOfBoundsException" ["java/lang/RuntimeException", "java/lang/Exception"], w.before args s = true :=
  vx_hat h1 (by decide +kernel : ∀ w ∈ (vx_atS RX7 262 "java/lang/IndexOutOfBoundsException" ["java/lang/RuntimeException", "java/lang/Exception"]).filter (fun w => !goodWord w), w ∈ xBd "java/lang/IndexOutOfBoundsException") (xBd_of (by simp [xCs]) h)
theorem xgd_1 : ∀ w ∈ Cond.classLink RX7 177 "java/lang/IllegalArgumentException" :: Cond.initialized "java/lang/IllegalArgumentException" :: vx_atS RX7 181 "java/lang/IllegalArgumentException" ["java/lang/RuntimeException", "java/lang/Exception"], vx_ot w = true := by decide +kernel
theorem xgd_2 : ∀ w ∈ Cond.classLink RX7 58 "java/lang/IllegalStateException" :: Cond.initialized "java/lang/IllegalStateException" :: vx_atS RX7 62 "java/lang/IllegalStateException" ["java/lang/RuntimeException", "java/lang/Exception"], vx_ot w = true := by decide +kernel
theorem xgd_3 : ∀ w ∈ Cond.classLink RX7 258 "java/lang/IndexOutOfBoundsException" :: Cond.initialized "java/lang/IndexOutOfBoundsException" :: vx_atS RX7 262 "java/lang/IndexOutOfBoundsException" ["java/lang/RuntimeException", "java/lang/Exception"], vx_ot w = true := by decide +kernel
theorem xfit_1 : Bundle.fit "java/lang/IllegalArgumentException" = true := by decide +kernel
theorem xfit_2 : Bundle.fit "java/lang/IllegalStateException" = true := by decide +kernel
theorem xfit_3 : Bundle.fit "java/lang/IndexOutOfBoundsException" = true := by decide +kernel
theorem xfit_n : ∀ n ∈ ["java/lang/RuntimeException", "java/lang/Exception"], Bundle.fit n = true := by decide +kernel
/-- a method that has thrown: the class, and nothing that was there has changed -/
def xC (k : Int32) : String → State → State → Prop := fun E st t => E = xnm k ∧ ¬ k = 0 ∧ st.heap.size ≤ t.heap.size ∧ ∀ q : Nat, q < st.heap.size → t.heap[q]? = st.heap[q]?
abbrev xQ (k : Int32) (Qc : Array Value → State → Outcome → State → Prop) : Array Value → State → Outcome → State → Prop := fun a st o t => k = 0 ∧ Qc a st o t
def xspc (av : List Value) : Array Value → State → Prop := fun v U => v = av.toArray ∧ xE U
theorem xspc_blind {av : List Value} : FrameBlind (xspc av) := fun _ _ _ _ q => ⟨q.1, q.2.blind⟩
def xrpc (D : va_G) (tys : xTy) (ws : va_W) (av : List Value) : Array Value → State → Prop := fun v U => rpc D tys ws av v U ∧ xE U
theorem xrpc_blind {D : va_G} {tys : xTy} {ws : va_W} {av : List Value} : FrameBlind (xrpc D tys ws av) := fun a U g mk q => ⟨rpc_blind a U g mk q.1, q.2.blind⟩
def xmpc (D : va_G) (tys : xTy) (ws : va_W) (av : List Value) (sz : Nat) : Array Value → State → Prop := fun v U => mpc D tys ws av sz v U ∧ xE U
theorem xmpc_blind {D : va_G} {tys : xTy} {ws : va_W} {av : List Value} {sz : Nat} : FrameBlind (xmpc D tys ws av sz) := fun a U g mk q => ⟨mpc_blind a U g mk q.1, q.2.blind⟩
section XT
variable {l : Launch} {y : MethodName} {ws ws' : List Cond} {rm : Room} {cc : ByteArray} {maxL mc ms : Nat} {ret : Option FieldType} {D : va_G} {tys : xTy} {wc w1 : va_W} {av : List Value} {own : String} {Qc : Array Value → State → Outcome → State → Prop} {XC : String → State → State → Prop} {free : Addr → Prop}
theorem x_ofW0 {Pc : Array Value → State → Prop} (hy : plainName y.cls = true) (hw : ws = Cond.code y cc maxL ret :: ws') (hcls : y.cls = own) (hn : (lg_sl av).length ≤ maxL) (hPc : ∀ v U, Pc v U → v = av.toArray)
    (body : ∀ (p : Program) (e : Env) (s : State) (m : MethodId) (args : Array Value) (below : List Frame) (meth : Method) (c : Code), p.tables.exec = Jvm.exec → c.code = cc → meth.sig.returnType = ret → (∀ w ∈ ws, w.before args s = true) → s.vm.findClass own = some m.cls → meth.locks = false → c.maxLocals = maxL → (∀ x ∈ c.exceptionTable.toList, False) → Pc args s → ∀ ls : Array Slot, lv_has ls maxL (lv_args 0 av) →
      W p l e (headSpec ws rm).room s m args below meth c s.heap [] 0 0 (vx_MQ below Qc XC args s mc ms free) (F0 m 0 ls [])) : vx_Met l y ws rm Pc Qc XC mc ms free := by
  refine vx_ofW (cc := cc) (maxL := maxL) (ret := ret) hy hw ?_
  intro p e s m args below meth c s₁ B hml ht hv
  subst hcls
  obtain rfl := hPc _ _ hv
  have hl := lv_entry av (n := maxL) hn
  rw [lg_entry_eq]
  exact body p e s m _ below meth c B.exec B.bytes B.returns (atoms_spec (ws := ws) B.pre) (findClass_of_methodNamed B.named) B.notSynchronized hml ht hv _ hl
theorem x_ofWs (hy : plainName y.cls = true) (hw : ws = Cond.code y cc maxL ret :: ws') (hcls : y.cls = own) (hn : (lg_sl av).length ≤ maxL)
    (body : ∀ (p : Program) (e : Env) (s : State) (m : MethodId) (args : Array Value) (below : List Frame) (meth : Method) (c : Code), p.tables.exec = Jvm.exec → c.code = cc → meth.sig.returnType = ret → (∀ w ∈ ws, w.before args s = true) → s.vm.findClass own = some m.cls → meth.locks = false → c.maxLocals = maxL → (∀ x ∈ c.exceptionTable.toList, False) → xE s → ∀ ls : Array Slot, lv_has ls maxL (lv_args 0 av) →
      W p l e (headSpec ws rm).room s m args below meth c s.heap [] 0 0 (vx_MQ below Qc XC args s mc ms free) (F0 m 0 ls [])) : vx_Met l y ws rm (xspc av) Qc XC mc ms free :=
  x_ofW0 hy hw hcls hn (fun _ _ h => h.1) fun p e s m args below meth c h1 h2 h3 h4 h5 h6 h7 h8 hv ls hl => body p e s m args below meth c h1 h2 h3 h4 h5 h6 h7 h8 hv.2 ls hl
theorem x_ofWr (hy : plainName y.cls = true) (hw : ws = Cond.code y cc maxL ret :: ws') (hcls : y.cls = own) (hn : (lg_sl av).length ≤ maxL)
    (body : ∀ (p : Program) (e : Env) (s : State) (m : MethodId) (args : Array Value) (below : List Frame) (meth : Method) (c : Code), p.tables.exec = Jvm.exec → c.code = cc → meth.sig.returnType = ret → (∀ w ∈ ws, w.before args s = true) → s.vm.findClass own = some m.cls → meth.locks = false → c.maxLocals = maxL → (∀ x ∈ c.exceptionTable.toList, False) → xE s → va_P D vwCl wc s.heap → va_K D vwCl tys s → ∀ ls : Array Slot, lv_has ls maxL (lv_args 0 av) →
      W p l e (headSpec ws rm).room s m args below meth c s.heap [] 0 0 (vx_MQ below Qc XC args s mc ms free) (F0 m 0 ls [])) : vx_Met l y ws rm (xrpc D tys wc av) Qc XC mc ms free :=
  x_ofW0 hy hw hcls hn (fun _ _ h => h.1.1) fun p e s m args below meth c h1 h2 h3 h4 h5 h6 h7 h8 hv ls hl => body p e s m args below meth c h1 h2 h3 h4 h5 h6 h7 h8 hv.2 hv.1.2.1 hv.1.2.2 ls hl
theorem x_ofWm {sz : Nat} {Qc : (Nat → Prop) → Array Value → State → Outcome → State → Prop} (hy : plainName y.cls = true) (hw : ws = Cond.code y cc maxL ret :: ws') (hcls : y.cls = own) (hn : (lg_sl av).length ≤ maxL)
    (body : ∀ (p : Program) (e : Env) (s : State) (m : MethodId) (args : Array Value) (below : List Frame) (meth : Method) (c : Code), p.tables.exec = Jvm.exec → c.code = cc → meth.sig.returnType = ret → (∀ w ∈ ws, w.before args s = true) → s.vm.findClass own = some m.cls → meth.locks = false → c.maxLocals = maxL → (∀ x ∈ c.exceptionTable.toList, False) → xE s → ∀ A : Nat → Prop, (∀ q, s.heap.size ≤ q → A q) → va_P D vwCl wc s.heap → va_D A wc → va_S A s.heap s.heap [] → va_K D vwCl tys s → ∀ ls : Array Slot, lv_has ls maxL (lv_args 0 av) →
      W p l e (headSpec ws rm).room s m args below meth c s.heap [] 0 0 (vx_MQ below (Qc A) XC args s mc ms A) (F0 m 0 ls [])) : vx_Met l y ws rm (xmpc D tys wc av sz) (Qc (va_A wc sz)) XC mc ms (va_A wc sz) := by
  refine x_ofW0 hy hw hcls hn (fun _ _ h => h.1.1) fun p e s m args below meth c h1 h2 h3 h4 h5 h6 h7 h8 hv ls hl => ?_
  obtain ⟨⟨-, hsz, hP, hK, hD0⟩, hE⟩ := hv
  subst hsz
  exact body p e s m args below meth c h1 h2 h3 h4 h5 h6 h7 h8 hE (va_A wc s.heap.size) (fun q h => Or.inr h) hP hD0.self va_S.rf hK ls hl
end XT
section XR
variable {p : Program} {l : Launch} {e : Env} {R : Room} {s : State} {m : MethodId} {args : Array Value} {below : List Frame} {meth : Method} {c : Code} {H : Heap} {locs : List Loc} {cells slots mc ms mc1 ms1 : Nat} {Q : State → Prop}
variable {y : MethodName} {bytes cc : ByteArray} {maxL nL n index : Nat} {ret : Option FieldType} {ws' Ts : List Cond} {rm : Room} {own C : String} {b : Addr} {As rest st0 : List Value} {pc : Nat} {ls : Array Slot} {a : Array Value}
variable {D : va_G} {tys : xTy} {ws wc wr w1 : va_W} {ci : Nat} {fs : List Value} {T : u_T} {N : Nat} {A : Nat → Prop} {free : Addr → Prop} {k : Int32} {Qc : Array Value → State → Outcome → State → Prop}
/-- new E("text"), thrown -/
theorem x_thrS {cls text : String} {ik is ic : Nat} (hexec : p.tables.exec = Jvm.exec) (hb : c.code = cc) (hl : l.stackTraces = false) (hown : s.vm.findClass RX7 = some m.cls) (hcls : Bundle.fit cls = true)
    (hk : (Cond.classLink RX7 ik cls).before args s = true) (hini : (Cond.initialized cls).before args s = true) (hat : ∀ w ∈ vx_atS RX7 ic cls ["java/lang/RuntimeException", "java/lang/Exception"], w.before args s = true)
    (hgood : ∀ w ∈ Cond.classLink RX7 ik cls :: Cond.initialized cls :: vx_atS RX7 ic cls ["java/lang/RuntimeException", "java/lang/Exception"], vx_ot w = true) (hE : xE s) (hq : (is, text) ∈ xSt) (hsize : ls.size = c.maxLocals)
    (d0 : decode cc pc = .ok (.new ik, 3)) (d3 : decode cc (pc + 3) = .ok (.dup, 1)) (d4 : decode cc (pc + 4) = .ok (.ldc is, 2)) (d6 : decode cc (pc + 6) = .ok (.invokespecial ic, 3)) (d9 : decode cc (pc + 9) = .ok (.athrow, 1))
    (hout : ∀ x ∈ c.exceptionTable.toList, False) (hRframes : 5 < R.frames) (hRlocals : (rest.map fun v => v.category).sum + 82 ≤ R.locals) (hRcells : cells + 1 ≤ R.cells) (hRslots : slots + 6 ≤ R.slots) (hlocks : meth.locks = false)
    (hk0 : ¬ k = 0) (hkn : cls = xnm k) (hc : cells + 1 ≤ mc) (hs : slots + 6 ≤ ms) :
    W p l e R s m args below meth c s.heap [] cells slots (vx_MQ below Qc (xC k) args s mc ms free) (F0 m pc ls rest) := by
  obtain ⟨sa, hstr⟩ := hE.2.2.1 _ hq
  exact vx_throwS hexec hb hl hown hcls xfit_n hk hini hstr hat hgood hE.1 hE.2.1 va_S.rf hsize d0 d3 d4 d6 d9 (fun x hx => (hout x hx).elim) hRframes hRlocals hRcells hRslots hlocks
    (fun t _ hz hq => ⟨hkn, hk0, hz, hq⟩) (fun _ h => absurd h List.not_mem_nil) hc hs
theorem x_thrSW {cls text : String} {ik is ic : Nat} (hexec : p.tables.exec = Jvm.exec) (hb : c.code = cc) (hl : l.stackTraces = false) (hown : s.vm.findClass RX7 = some m.cls) (hcls : Bundle.fit cls = true)
    (hk : (Cond.classLink RX7 ik cls).before args s = true) (hini : (Cond.initialized cls).before args s = true) (hat : ∀ w ∈ vx_atS RX7 ic cls ["java/lang/RuntimeException", "java/lang/Exception"], w.before args s = true)
    (hgood : ∀ w ∈ Cond.classLink RX7 ik cls :: Cond.initialized cls :: vx_atS RX7 ic cls ["java/lang/RuntimeException", "java/lang/Exception"], vx_ot w = true) (hE : xE s) (hq : (is, text) ∈ xSt) (hsize : ls.size = c.maxLocals)
    (d0 : decode cc pc = .ok (.new ik, 3)) (d3 : decode cc (pc + 3) = .ok (.dup, 1)) (d4 : decode cc (pc + 4) = .ok (.ldc_w is, 3)) (d7 : decode cc (pc + 7) = .ok (.invokespecial ic, 3)) (d10 : decode cc (pc + 10) = .ok (.athrow, 1))
    (hout : ∀ x ∈ c.exceptionTable.toList, False) (hRframes : 5 < R.frames) (hRlocals : (rest.map fun v => v.category).sum + 82 ≤ R.locals) (hRcells : cells + 1 ≤ R.cells) (hRslots : slots + 6 ≤ R.slots) (hlocks : meth.locks = false)
    (hk0 : ¬ k = 0) (hkn : cls = xnm k) (hc : cells + 1 ≤ mc) (hs : slots + 6 ≤ ms) :
    W p l e R s m args below meth c s.heap [] cells slots (vx_MQ below Qc (xC k) args s mc ms free) (F0 m pc ls rest) := by
  obtain ⟨sa, hstr⟩ := hE.2.2.1 _ hq
  exact vx_throwSW hexec hb hl hown hcls xfit_n hk hini hstr hat hgood hE.1 hE.2.1 va_S.rf hsize d0 d3 d4 d7 d10 (fun x hx => (hout x hx).elim) hRframes hRlocals hRcells hRslots hlocks
    (fun t _ hz hq => ⟨hkn, hk0, hz, hq⟩) (fun _ h => absurd h List.not_mem_nil) hc hs
/-- behind a call of a method that answers nothing, or throws -/
theorem x_goV (hr : vx_Run p l e R s m args below meth c s.heap [] cells slots mc1 ms1 (F0 m pc ls st0) rest (xQ k (va_Sv (fun _ => True)) a) (xC k) (fun _ => False))
    (kx : ¬ k = 0 → ∀ (H1 : Heap) (q9 : Nat) (ce : Cell), s.heap.size ≤ H1.size → (∀ q : Nat, q < s.heap.size → H1[q]? = s.heap[q]?) → H1[q9]? = some ce → ce.vm = .none → s.vm.findClass (xnm k) = some ce.cls → vx_W p l e R s m args below meth c H1 [] (cells + mc1) (slots + ms1) Q (F0 m pc ls rest) q9)
    (kk : k = 0 → W p l e R s m args below meth c s.heap [] (cells + mc1) (slots + ms1) Q (F0 m (pc + 3) ls rest)) : W p l e R s m args below meth c s.heap [] cells slots Q (F0 m pc ls st0) := by
  intro T hT X
  rcases hr T hT X with ⟨v, st₀, t, T', L, h0, X', hL, e1, e2, ⟨hk, hv, -, hh⟩, st⟩ | ⟨q, st₀, t, T', L, E, ce, h0, X', hL, e1, e2, ⟨hE, hk, hz, hq⟩, hce, hcv, hcl, st⟩
  · cases hv
    obtain ⟨t2, a1, b1⟩ := kk hk T' (by rw [e1, hh, h0]) (Stand.forget X' (fun q h => (hL q h).elim))
    exact ⟨t2, st t2 a1, b1⟩
  · rw [h0] at hz hq
    obtain ⟨t2, a1, b1⟩ := kx hk T'.heap q ce (by rw [e1]; exact hz) (fun q h => by rw [e1]; exact hq q h) (by rw [e1]; exact hce) hcv (by rw [← hE]; exact hcl) T' rfl (Stand.forget X' (fun q h => (hL q h).elim))
    exact ⟨t2, st.trans a1, b1⟩
theorem x_goI {v : Int32} (hr : vx_Run p l e R s m args below meth c s.heap [] cells slots mc1 ms1 (F0 m pc ls st0) rest (xQ k (vp_Si (fun x => x = v)) a) (xC k) (fun _ => False))
    (kx : ¬ k = 0 → ∀ (H1 : Heap) (q9 : Nat) (ce : Cell), s.heap.size ≤ H1.size → (∀ q : Nat, q < s.heap.size → H1[q]? = s.heap[q]?) → H1[q9]? = some ce → ce.vm = .none → s.vm.findClass (xnm k) = some ce.cls → vx_W p l e R s m args below meth c H1 [] (cells + mc1) (slots + ms1) Q (F0 m pc ls rest) q9)
    (kk : k = 0 → W p l e R s m args below meth c s.heap [] (cells + mc1) (slots + ms1) Q (F0 m (pc + 3) ls (.int v :: rest))) : W p l e R s m args below meth c s.heap [] cells slots Q (F0 m pc ls st0) := by
  intro T hT X
  rcases hr T hT X with ⟨v9, st₀, t, T', L, h0, X', hL, e1, e2, ⟨hk, r, hv, hp, hh⟩, st⟩ | ⟨q, st₀, t, T', L, E, ce, h0, X', hL, e1, e2, ⟨hE, hk, hz, hq⟩, hce, hcv, hcl, st⟩
  · cases hv
    subst hp
    obtain ⟨t2, a1, b1⟩ := kk hk T' (by rw [e1, hh, h0]) (Stand.forget X' (fun q h => (hL q h).elim))
    exact ⟨t2, st t2 a1, b1⟩
  · rw [h0] at hz hq
    obtain ⟨t2, a1, b1⟩ := kx hk T'.heap q ce (by rw [e1]; exact hz) (fun q h => by rw [e1]; exact hq q h) (by rw [e1]; exact hce) hcv (by rw [← hE]; exact hcl) T' rfl (Stand.forget X' (fun q h => (hL q h).elim))
    exact ⟨t2, st.trans a1, b1⟩
theorem x_callS (S : CallFix p m c cc nL s args Ts own) (hM : vx_Met l y ws' rm (xspc As) (xQ k (va_Sv (fun _ => True))) (xC k) mc1 ms1 (fun _ => False)) (cw : CallB R s args own index y bytes maxL ret ws' rm mc1 ms1 n ∧ (Cond.static y).before args s = true) (hE : xE s)
    (hn : As.length = n) (hsz : ls.size = nL) (hst : st0 = As.reverse ++ rest) (hW : (rest.map fun v => v.category).sum ≤ 8) (hdg : decode cc pc = .ok (.invokestatic index, 3)) (hf : cells + mc1 ≤ R.cells ∧ slots + ms1 ≤ R.slots)
    (kx : ¬ k = 0 → ∀ (H1 : Heap) (q9 : Nat) (ce : Cell), s.heap.size ≤ H1.size → (∀ q : Nat, q < s.heap.size → H1[q]? = s.heap[q]?) → H1[q9]? = some ce → ce.vm = .none → s.vm.findClass (xnm k) = some ce.cls → vx_W p l e R s m args below meth c H1 [] (cells + mc1) (slots + ms1) Q (F0 m pc ls rest) q9)
    (kk : k = 0 → W p l e R s m args below meth c s.heap [] (cells + mc1) (slots + ms1) Q (F0 m (pc + 3) ls rest)) : W p l e R s m args below meth c s.heap [] cells slots Q (F0 m pc ls st0) :=
  x_goV (vx_runS (As := As) (rest := rest) S hM cw ⟨xspc_blind, fun U hU hW => ⟨rfl, hE.to hW hU⟩⟩ rfl hn hsz hst (lv_room hW) hdg hf) kx kk
theorem x_callV (S : CallFix p m c cc nL s args Ts own) (hM : vx_Met l y ws' rm (xrpc D tys wc (.ref b :: As)) (xQ k (va_Sv (fun _ => True))) (xC k) mc1 ms1 (fun _ => False)) (cw : CallW R s args own C index y bytes maxL ret ws' rm mc1 ms1 n) (hE : xE s)
    (hP : va_P D vwCl wc s.heap) (hK : va_K D vwCl tys s) (h0 : wc[0]? = some (b, .inr (ci, fs))) (hc : vwCl[ci]? = some (C, T, N)) (hn : As.length = n) (hsz : ls.size = nL) (hst : st0 = As.reverse ++ .ref b :: rest) (hW : (rest.map fun v => v.category).sum ≤ 8) (hdg : decode cc pc = .ok (.invokevirtual index, 3)) (hf : cells + mc1 ≤ R.cells ∧ slots + ms1 ≤ R.slots)
    (kx : ¬ k = 0 → ∀ (H1 : Heap) (q9 : Nat) (ce : Cell), s.heap.size ≤ H1.size → (∀ q : Nat, q < s.heap.size → H1[q]? = s.heap[q]?) → H1[q9]? = some ce → ce.vm = .none → s.vm.findClass (xnm k) = some ce.cls → vx_W p l e R s m args below meth c H1 [] (cells + mc1) (slots + ms1) Q (F0 m pc ls rest) q9)
    (kk : k = 0 → W p l e R s m args below meth c s.heap [] (cells + mc1) (slots + ms1) Q (F0 m (pc + 3) ls rest)) : W p l e R s m args below meth c s.heap [] cells slots Q (F0 m pc ls st0) :=
  x_goV (vx_runV (As := As) (rest := rest) S hM cw ⟨xrpc_blind, va_recv hK hP hc h0, fun U hU hW => ⟨⟨rfl, by rw [hU]; exact hP, va_K.moved hW.alike hK⟩, hE.to hW hU⟩⟩ rfl hn hsz hst (lv_room hW) hdg hf) kx kk
theorem x_callVi {v : Int32} (S : CallFix p m c cc nL s args Ts own) (hM : vx_Met l y ws' rm (xrpc D tys wc (.ref b :: As)) (xQ k (vp_Si (fun x => x = v))) (xC k) mc1 ms1 (fun _ => False)) (cw : CallW R s args own C index y bytes maxL ret ws' rm mc1 ms1 n) (hE : xE s)
    (hP : va_P D vwCl wc s.heap) (hK : va_K D vwCl tys s) (h0 : wc[0]? = some (b, .inr (ci, fs))) (hc : vwCl[ci]? = some (C, T, N)) (hn : As.length = n) (hsz : ls.size = nL) (hst : st0 = As.reverse ++ .ref b :: rest) (hW : (rest.map fun v => v.category).sum ≤ 8) (hdg : decode cc pc = .ok (.invokevirtual index, 3)) (hf : cells + mc1 ≤ R.cells ∧ slots + ms1 ≤ R.slots)
    (kx : ¬ k = 0 → ∀ (H1 : Heap) (q9 : Nat) (ce : Cell), s.heap.size ≤ H1.size → (∀ q : Nat, q < s.heap.size → H1[q]? = s.heap[q]?) → H1[q9]? = some ce → ce.vm = .none → s.vm.findClass (xnm k) = some ce.cls → vx_W p l e R s m args below meth c H1 [] (cells + mc1) (slots + ms1) Q (F0 m pc ls rest) q9)
    (kk : k = 0 → W p l e R s m args below meth c s.heap [] (cells + mc1) (slots + ms1) Q (F0 m (pc + 3) ls (.int v :: rest))) : W p l e R s m args below meth c s.heap [] cells slots Q (F0 m pc ls st0) :=
  x_goI (vx_runV (As := As) (rest := rest) S hM cw ⟨xrpc_blind, va_recv hK hP hc h0, fun U hU hW => ⟨⟨rfl, by rw [hU]; exact hP, va_K.moved hW.alike hK⟩, hE.to hW hU⟩⟩ rfl hn hsz hst (lv_room hW) hdg hf) kx kk
/-- not caught: it goes on -/
theorem x_out {H1 : Heap} {q9 : Nat} {ce : Cell} (hout : ∀ x ∈ c.exceptionTable.toList, False) (hlocks : meth.locks = false) (hk : ¬ k = 0) (hz : s.heap.size ≤ H1.size) (hq : ∀ q : Nat, q < s.heap.size → H1[q]? = s.heap[q]?) (hce : H1[q9]? = some ce) (hcv : ce.vm = .none) (hcl : s.vm.findClass (xnm k) = some ce.cls) (hc : cells ≤ mc) (hs : slots ≤ ms) :
    vx_W p l e R s m args below meth c H1 [] cells slots (vx_MQ below Qc (xC k) args s mc ms free) (F0 m pc ls rest) q9 :=
  vx_out (fun x hx => (hout x hx).elim) hlocks hce hcv hcl (fun t ht _ => ⟨rfl, hk, by rw [ht]; exact hz, fun q h => by rw [ht]; exact hq q h⟩) (fun _ h => absurd h List.not_mem_nil) hc hs
/-- ends -/
theorem x_ret {XC : String → State → State → Prop} {g : JFrame} (hk : k = 0) (h1 : cells ≤ mc) (h2 : slots ≤ ms) (h : W p l e R s m args below meth c H locs mc ms (MQ below Qc args s mc ms free) g) : W p l e R s m args below meth c H locs cells slots (vx_MQ below (xQ k Qc) XC args s mc ms free) g :=
  W.widen h1 h2 (vx_ret fun T hT X => by
    obtain ⟨t, a1, o, b1, b2, b3, b4⟩ := h T hT X
    exact ⟨t, a1, o, b1, b2, ⟨hk, b3⟩, b4⟩)
theorem ro_vret (hx : p.tables.exec = Jvm.exec) (hb : c.code = cc) (hr : meth.sig.returnType = none) (hdg : decode cc pc = .ok (.return_, 1)) (hlocks : meth.locks = false) : W p l e R s m args below meth c s.heap [] cells slots (MQ below (va_Sv (fun _ => True)) args s cells slots (fun _ => False)) (F0 m pc ls []) :=
  W.vret hx hb hr (fun t ht hW => ⟨rfl, trivial, ht⟩) (fun _ h => absurd h List.not_mem_nil) hdg hlocks
end XR
section XU
variable {p : Program} {l : Launch} {e : Env} {R : Room} {s : State} {m : MethodId} {args : Array Value} {below : List Frame} {meth : Method} {c : Code} {H : Heap} {locs : List Loc} {cells slots : Nat} {Q : State → Prop}
variable {y : MethodName} {bytes cc : ByteArray} {maxL nL n index : Nat} {ret : Option FieldType} {ws' Ts : List Cond} {rm : Room} {own C : String} {b : Addr} {As rest st0 : List Value} {pc : Nat} {ls : Array Slot}
variable {D : va_G} {tys : xTy} {ws wc : va_W} {ci : Nat} {fs : List Value} {T : u_T} {N : Nat}
theorem sp_callSv (S : CallFix p m c cc nL s args Ts own) (hM : Met l y ws' rm (spc As) (va_Sv (fun _ => True)) 0 0 (fun _ => False)) (cw : CallB R s args own index y bytes maxL ret ws' rm 0 0 n ∧ (Cond.static y).before args s = true)
    (hn : As.length = n) (hsz : ls.size = nL) (hst : st0 = As.reverse ++ rest) (hW : (rest.map fun v => v.category).sum ≤ 8) (hdg : decode cc pc = .ok (.invokestatic index, 3)) (hf : cells ≤ R.cells ∧ slots ≤ R.slots)
    (kk : W p l e R s m args below meth c H locs cells slots Q (F0 m (pc + 3) ls rest)) : W p l e R s m args below meth c H locs cells slots Q (F0 m pc ls st0) :=
  va_csv (W.runS (As := As) (rest := rest) S hM cw ⟨spc_blind, fun U hU hW => rfl⟩ rfl hn hsz hst (lv_room hW) hdg hf) fun _ => kk
/-- a method that hands back one of the cells, or null -/
theorem ro_callVs {r : Option Nat} {q : Nat} (hr : r = some q) (S : CallFix p m c cc nL s args Ts own) (hM : Met l y ws' rm (rpc D tys wc (.ref b :: As)) (va_Sq (fun x => x = r)) 0 0 (fun _ => False)) (cw : CallW R s args own C index y bytes maxL ret ws' rm 0 0 n)
    (hP : va_P D vwCl wc H) (hK : va_K D vwCl tys s) (h0 : wc[0]? = some (b, .inr (ci, fs))) (hc : vwCl[ci]? = some (C, T, N)) (hn : As.length = n) (hsz : ls.size = nL) (hst : st0 = As.reverse ++ .ref b :: rest) (hW : (rest.map fun v => v.category).sum ≤ 8) (hdg : decode cc pc = .ok (.invokevirtual index, 3)) (hf : cells ≤ R.cells ∧ slots ≤ R.slots)
    (kk : W p l e R s m args below meth c H locs cells slots Q (F0 m (pc + 3) ls (.ref q :: rest))) : W p l e R s m args below meth c H locs cells slots Q (F0 m pc ls st0) :=
  va_csq (W.runV (As := As) (rest := rest) S hM cw ⟨rpc_blind, va_recv hK hP hc h0, fun U hU hW => ⟨rfl, by rw [hU]; exact hP, va_K.moved hW.alike hK⟩⟩ rfl hn hsz hst (lv_room hW) hdg hf) fun x hx => by subst hx; subst hr; exact kk
end XU
/-- the ring of four -/
def gR (a b c d : Nat) : Nat → Option Nat := fun j => match j with
  | 0 => some a
  | 1 => some b
  | 2 => some c
  | _ => some d
abbrev rmX6_slotAt : Room := { frames := 0, cells := 0, slots := 0, locals := 0 }
theorem iX6_slotAt_X6 : ∀ w ∈ wsX60, w ∈ wsX6_slotAt := (fun _ h => List.mem_cons_of_mem _ (List.mem_append_right _ h))
theorem hdX6_slotAt : yX6_slotAt.cls = RX6 ∧ yX6_slotAt.cls ≠ "java/lang/invoke/MethodHandle" ∧ yX6_slotAt.cls ≠ "java/lang/invoke/VarHandle" ∧ (parseMethodDescriptor yX6_slotAt.desc).map (fun d => d.parameters.length) = some 1 := by decide +kernel
set_option maxHeartbeats 4000000 in
set_option maxRecDepth 100000 in
theorem kX6_slotAt (l : Launch) (dC : Nat → ClassId) (dI : Nat → Nat → Nat) (cQ : ClassId) (a_t a_t_ring : Nat) (g : Nat → Option Nat) (v1 v2 p1 : Int32) : Met l yX6_slotAt wsX6_slotAt rmX6_slotAt (rpc (dC, dI) [(cQ, .object "RoadNames$State")] [(a_t, .inr (5, [.ref a_t_ring, .int v1, .int v2])), (a_t_ring, .inl (cQ, 4, .inr (.inr (.inr (.inr g)))))] [.ref a_t, .int p1]) (va_Sq (fun x => x = (if p1 < 0 then none else if 4 ≤ p1 then none else g p1.toNatClampNeg))) 0 0 (fun _ => False) := by
  refine ro_ofW (cc := cX6_slotAt) (maxL := 2) (ret := (some (.object "RoadNames$State"))) (own := RX6) (by decide) rfl rfl (Nat.le_of_ble_eq_true rfl) ?_
  intro p e s m args below meth c hx hb hr hts hown hlocks hml hP hK ls hl
  have hl : lv_has ls 2 [(0, .ref a_t), (1, .int p1)] := hl
  refine lv_iload_n hx hb dX6_slotAt_0 rfl (lv_at hl 1 rfl) ?_
  refine lv_if_lt (tgt := 22) hx hb dX6_slotAt_1 (by decide) (fun c1 => ?_) (fun c1 => ?_)
  · refine lv_null hx hb dX6_slotAt_22 ?_
    exact W.aret hx hb hr (Or.inl ⟨_, rfl⟩) (Or.inl rfl) (fun t ht hW => ⟨none, rfl, by rw [if_pos c1], ht⟩) (fun _ h => absurd h List.not_mem_nil) dX6_slotAt_23
  · refine lv_iload_n hx hb dX6_slotAt_4 rfl (lv_at hl 1 rfl) ?_
    refine lv_aload_n hx hb dX6_slotAt_5 rfl (lv_at hl 0 rfl) ?_
    refine va_get (D := (dC, dI)) (ci := 5) (C := RX6) (T := TX6) (N := 3) hx hb hts iX6_slotAt_X6 hown hK hP 0 rfl rfl 0 (by decide) (hts _ (List.mem_of_getElem? (i := 1) rfl)) (fun _ h9 => h9) rfl dX6_slotAt_6 ?_
    refine va_alen (v := 4) hx hb hK hP 1 0 rfl rfl rfl dX6_slotAt_9 ?_
    refine lv_icmp_ge (tgt := 22) hx hb dX6_slotAt_10 (by decide) (fun c10 => ?_) (fun c10 => ?_)
    · refine lv_null hx hb dX6_slotAt_22 ?_
      exact W.aret hx hb hr (Or.inl ⟨_, rfl⟩) (Or.inl rfl) (fun t ht hW => ⟨none, rfl, by rw [if_neg c1, if_pos c10], ht⟩) (fun _ h => absurd h List.not_mem_nil) dX6_slotAt_23
    · refine lv_aload_n hx hb dX6_slotAt_13 rfl (lv_at hl 0 rfl) ?_
      refine va_get (D := (dC, dI)) (ci := 5) (C := RX6) (T := TX6) (N := 3) hx hb hts iX6_slotAt_X6 hown hK hP 0 rfl rfl 0 (by decide) (hts _ (List.mem_of_getElem? (i := 1) rfl)) (fun _ h9 => h9) rfl dX6_slotAt_14 ?_
      refine lv_iload_n hx hb dX6_slotAt_17 rfl (lv_at hl 1 rfl) ?_
      refine va_aldq hx hb hK hP 1 0 rfl rfl (in_guard c1 c10 (by decide)) dX6_slotAt_18 ?_
      refine lv_goto (tgt := 23) hx hb dX6_slotAt_19 (by decide) ?_
      exact W.aret hx hb hr (Or.inl ⟨_, rfl⟩) (va_rf_or _) (fun t ht hW => ⟨g p1.toNatClampNeg, rfl, by rw [if_neg c1, if_neg c10], ht⟩) (fun _ h => absurd h List.not_mem_nil) dX6_slotAt_23
