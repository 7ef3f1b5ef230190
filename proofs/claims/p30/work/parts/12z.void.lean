/-! A method without an answer that only reads. -/
section XVV
variable {p : Program} {l : Launch} {e : Env} {R : Room} {s : State} {m : MethodId} {args : Array Value} {below : List Frame} {meth : Method} {c : Code} {H : Heap} {locs : List Loc} {cells slots : Nat} {Q : State → Prop}
variable {y : MethodName} {bytes cc : ByteArray} {maxL nL n index : Nat} {ret : Option FieldType} {ws' Ts : List Cond} {rm : Room} {own C : String} {b : Addr} {As rest st0 : List Value} {pc : Nat} {ls : Array Slot}
variable {D : va_G} {tys : xTy} {ws wc wr w1 : va_W} {ci : Nat} {fs : List Value} {T : u_T} {N : Nat} {A : Nat → Prop}
theorem ro_callVv (S : CallFix p m c cc nL s args Ts own) (hM : Met l y ws' rm (rpc D tys wc (.ref b :: As)) (va_Sv (fun _ => True)) 0 0 (fun _ => False)) (cw : CallW R s args own C index y bytes maxL ret ws' rm 0 0 n)
    (hP : va_P D vwCl wc H) (hK : va_K D vwCl tys s) (h0 : wc[0]? = some (b, .inr (ci, fs))) (hc : vwCl[ci]? = some (C, T, N)) (hn : As.length = n) (hsz : ls.size = nL) (hst : st0 = As.reverse ++ .ref b :: rest) (hW : (rest.map fun v => v.category).sum ≤ 8) (hdg : decode cc pc = .ok (.invokevirtual index, 3)) (hf : cells ≤ R.cells ∧ slots ≤ R.slots)
    (kk : W p l e R s m args below meth c H locs cells slots Q (F0 m (pc + 3) ls rest)) : W p l e R s m args below meth c H locs cells slots Q (F0 m pc ls st0) :=
  va_csv (W.runV (As := As) (rest := rest) S hM cw ⟨rpc_blind, va_recv hK hP hc h0, fun U hU hW => ⟨rfl, by rw [hU]; exact hP, va_K.moved hW.alike hK⟩⟩ rfl hn hsz hst (lv_room hW) hdg hf) fun _ => kk
end XVV
