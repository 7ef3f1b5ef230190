/-! The law's own body: what holds at each of its steps, its calls, its reads of the script. -/
abbrev XTY (cA cQ cL : ClassId) : xTy := [(cA, .int), (cQ, .object "RoadNames$State"), (cL, .long)]
/-- what stands fixed while the law runs -/
def lw_C (p : Program) (l : Launch) (s : State) (m : MethodId) (meth : Method) (c : Code) (b L : Nat) (xs : Nat → Int32) (dC : Nat → ClassId) (dI : Nat → Nat → Nat) (cA cQ cL : ClassId) : Prop :=
  p.tables.exec = Jvm.exec ∧ c.code = cL_law ∧ meth.sig.returnType = some .boolean ∧ c.maxLocals = 7 ∧ s.vm.findClass RL = some m.cls ∧ (∀ w ∈ wsL_law, w.before #[Value.ref b] s = true) ∧ meth.locks = false ∧ l.stackTraces = false ∧ xE s ∧ xN2 s ∧ va_K (dC, dI) vwCl (XTY cA cQ cL) s ∧ va_X b L xs s s.heap ∧ b < s.heap.size ∧ L ≤ 2048
section XL
variable {p : Program} {l : Launch} {e : Env} {R : Room} {s : State} {m : MethodId} {args : Array Value} {below : List Frame} {meth : Method} {c : Code} {H : Heap} {locs : List Loc} {cells slots mc1 ms1 : Nat} {Q : State → Prop}
variable {y : MethodName} {bytes cc : ByteArray} {maxL nL n index : Nat} {ret : Option FieldType} {ws' Ts : List Cond} {rm : Room} {own C : String} {b : Addr} {As rest st0 : List Value} {pc : Nat} {ls : Array Slot}
variable {D : va_G} {tys : xTy} {ws wc wr w1 : va_W} {ci : Nat} {fs : List Value} {T : u_T} {N : Nat} {A : Nat → Prop} {hh : List (Nat × Nat × Nat × Nat)}
theorem l_callS {v : Int32} (S : CallFix p m c cc nL s args Ts own) (hM : vx_Met l y ws' rm (lpc D tys wc As H.size) (mqi D tys (va_A wc H.size) w1 (fun x => x = v)) (fun _ _ _ => False) mc1 ms1 (va_A wc H.size)) (cw : vx_CSW R s args own index y bytes maxL ret hh ws' rm mc1 ms1 n) (hE : xE s) (hN : xN2 s)
    (hP : va_P D vwCl ws H) (hD : va_D (fun q => s.heap.size ≤ q) ws) (hS : va_S (fun q => s.heap.size ≤ q) s.heap H locs) (hK : va_K D vwCl tys s) (isC isR : List Nat) (hC : isC.map (fun i => ws[i]?) = wc.map some) (hR : isR.map (fun i => ws[i]?) = wr.map some) (hnC : va_nd isC = true) (hnR : va_nd isR = true) (hdis : ∀ i ∈ isR, i ∉ isC)
    (hn : As.length = n) (hsz : ls.size = nL) (hst : st0 = As.reverse ++ rest) (hW : (rest.map fun v => v.category).sum ≤ 8) (hdg : decode cc pc = .ok (.invokestatic index, 3)) (hf : cells + mc1 ≤ R.cells ∧ slots + ms1 ≤ R.slots)
    (kk : ∀ (H1 : Heap) (locs1 : List Loc), va_P D vwCl (wr ++ w1) H1 → va_D (fun q => s.heap.size ≤ q) (wr ++ w1) → va_S (fun q => s.heap.size ≤ q) s.heap H1 locs1 → W p l e R s m args below meth c H1 locs1 (cells + mc1) (slots + ms1) Q (F0 m (pc + 3) ls (.int v :: rest))) : W p l e R s m args below meth c H locs cells slots Q (F0 m pc ls st0) := by
  have hA : ∀ q, s.heap.size ≤ q → (fun q => s.heap.size ≤ q) q := fun q h => h
  have hPc : va_P D vwCl wc H := hP.sub isC (fm_of_map hC)
  have hDc := hD.sub isC hnC hC
  have hFc := va_free hD hS hA isC hC
  have hr := vx_runSX (p := p) (l := l) (e := e) (R := R) (below := below) (meth := meth) (locs := locs) (cells := cells) (slots := slots) (g := F0 m pc ls st0) (As := As) (rest := rest) S hM cw ⟨lpc_blind, fun U hU hW => ⟨⟨rfl, by rw [hU], by rw [hU]; exact hPc, va_K.moved hW.alike hK, hDc.weaken (fun _ _ _ _ => trivial)⟩, hE.at hS hU hW, hN.to hW.alike⟩⟩ rfl hn hsz hst (lv_room hW) hdg hf
  intro T hT X
  rcases hr T hT X with ⟨v9, st₀, t, T', L, g0, X', hL, e1, e2, ⟨⟨r, u, hv, hp, hB⟩, hF⟩, st⟩ | ⟨q, st₀, t, T', L, E, ce, g0, X', hL, e1, e2, hf9, hce, hcv, hcl, st⟩
  · cases hv
    have hp : r = v := hp
    subst hp
    obtain ⟨k1, k2, k3⟩ := vx_keep g0 e1 hS (fun q _ h => hFc q h) hFc hL hF
    obtain ⟨hP1, hK1, hD1⟩ := hB
    rw [← e1] at hP1
    obtain ⟨hP', hD'⟩ := va_join hP hD isC isR hC hR hnR hdis k2 hFc hP1 hD1
    obtain ⟨t2, a1, b1⟩ := kk T'.heap _ hP' hD' k3 T' rfl X'
    exact ⟨t2, st t2 a1, b1⟩
  · exact hf9.elim
theorem mu_callVl {v : Int64} (S : CallFix p m c cc nL s args Ts own) (hM : Met l y ws' rm (mpc D tys wc (.ref b :: As) H.size) (mql D tys (va_A wc H.size) w1 (fun x => x = v)) 0 0 (va_A wc H.size)) (cw : CallW R s args own C index y bytes maxL ret ws' rm 0 0 n)
    (hP : va_P D vwCl ws H) (hD : va_D A ws) (hS : va_S A s.heap H locs) (hA : ∀ q, s.heap.size ≤ q → A q) (hK : va_K D vwCl tys s) (isC isR : List Nat) (hC : isC.map (fun i => ws[i]?) = wc.map some) (hR : isR.map (fun i => ws[i]?) = wr.map some) (hnC : va_nd isC = true) (hnR : va_nd isR = true) (hdis : ∀ i ∈ isR, i ∉ isC)
    (h0 : wc[0]? = some (b, .inr (ci, fs))) (hc : vwCl[ci]? = some (C, T, N)) (hn : As.length = n) (hsz : ls.size = nL) (hst : st0 = As.reverse ++ .ref b :: rest) (hW : (rest.map fun v => v.category).sum ≤ 8) (hdg : decode cc pc = .ok (.invokevirtual index, 3)) (hf : cells ≤ R.cells ∧ slots ≤ R.slots)
    (kk : ∀ (H1 : Heap) (locs1 : List Loc), va_P D vwCl (wr ++ w1) H1 → va_D A (wr ++ w1) → va_S A s.heap H1 locs1 → W p l e R s m args below meth c H1 locs1 cells slots Q (F0 m (pc + 3) ls (.long v :: rest))) : W p l e R s m args below meth c H locs cells slots Q (F0 m pc ls st0) := by
  have hPc : va_P D vwCl wc H := hP.sub isC (fm_of_map hC)
  have hDc := hD.sub isC hnC hC
  have hFc := va_free hD hS hA isC hC
  refine va_calll (va_runV (As := As) (rest := rest) S hM cw ⟨mpc_blind, va_recv hK hPc hc h0, fun U hU hW => ⟨rfl, by rw [hU], by rw [hU]; exact hPc, va_K.moved hW.alike hK, hDc.weaken (fun _ _ _ _ => trivial)⟩⟩ rfl hn hsz hst (lv_room hW) hdg hf) hS (fun q _ h => hFc q h) hFc (fun r u t H1 locs1 ht hvm hp hB hz1 hk1 hS => ?_)
  obtain ⟨hP1, hK1, hD1⟩ := hB
  rw [ht] at hP1
  obtain ⟨hP', hD'⟩ := va_join hP hD isC isR hC hR hnR hdis hk1 hFc hP1 hD1
  have hp : r = v := hp
  subst hp
  exact kk H1 locs1 hP' hD' hS
/-- the script at a place that is known -/
theorem l_sld {L k : Nat} {xs : Nat → Int32} {i : Int32} (hx : p.tables.exec = Jvm.exec) (hb : c.code = cc) (hX : va_X b L xs s s.heap) (hbl : b < s.heap.size) (hS : va_S (fun q => s.heap.size ≤ q) s.heap H locs) (hi : i = nI k) (hk : k < L) (hL : L ≤ 2048) (hdg : decode cc pc = .ok (.iaload, 1))
    (kk : W p l e R s m args below meth c H locs cells slots Q (F0 m (pc + 1) ls (.int (xs k) :: rest))) : W p l e R s m args below meth c H locs cells slots Q (F0 m pc ls (.int i :: .ref b :: rest)) := by
  subst hi
  have h31 : k < 2 ^ 31 := by omega
  refine va_sld hx hb hX hbl (fun h => absurd hbl (Nat.not_lt.mpr h)) hS (vp_in_nI hk (by omega)) hdg ?_
  rw [nI_clamp h31]
  exact kk
theorem l_cmp0 (x : Int64) : lg_cmp x x = 0 := by simp [lg_cmp]
theorem nI_add2 (a : Nat) : nI a + 2 = nI (a + 2) := nI_add a 2
theorem nI_add3 (a : Nat) : nI a + 3 = nI (a + 3) := nI_add a 3
theorem nI_add4 (a : Nat) : nI a + 4 = nI (a + 4) := nI_add a 4
theorem l_k0 {k : Int32} (hz : (if k = 0 then 0 else (1 : Int32)) = 0) : k = 0 := by
  by_cases h : k = 0
  · exact h
  · rw [if_neg h] at hz
    exact absurd hz (by decide)
theorem l_k02 {k c1 : Int32} (hz : (if k = 0 then 0 else if k = c1 then 1 else (2 : Int32)) = 0) : k = 0 := by
  by_cases h : k = 0
  · exact h
  · rw [if_neg h] at hz
    by_cases h1 : k = c1
    · rw [if_pos h1] at hz
      exact absurd hz (by decide)
    · rw [if_neg h1] at hz
      exact absurd hz (by decide)
theorem l_out (g : Nat → Int64) {k r b2 : Int32} (hk : k = 0) (hv : r = b2) : lg_cmp ((if k = 0 then vp_updL g 0 r.toInt64 else g) (0 : Int32).toNatClampNeg) b2.toInt64 = 0 := by
  rw [if_pos hk, hv]
  exact l_cmp0 _
end XL
