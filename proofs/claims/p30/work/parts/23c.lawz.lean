/-! What the statement gives of the start. -/
theorem z_AT {U : State} {c : ClassId} {k : Class} {comp : ClassId} {ty : FieldType} (hk : U.vm.classes[c]? = some k) (h : k.kind = .array comp ty) : ArrOfT U c ty := fun N z => ⟨(fun k h => by cases h), k, hk, comp, h⟩
theorem z_int {s : State} {args : Array Value} (h : (Cond.arrayClass .int).before args s = true) : ∃ cA, ArrOfT s cA .int ∧ va_RA s cA .int := by
  obtain ⟨c, k, comp, h1, h2, h3⟩ := Cond.arrayClass_spec h
  exact ⟨c, z_AT h2 h3, h1⟩
theorem z_long {s : State} {args : Array Value} (h : (Cond.arrayClass .long).before args s = true) : ∃ cA, ArrOfT s cA .long ∧ va_RA s cA .long := by
  obtain ⟨c, k, comp, h1, h2, h3⟩ := Cond.arrayClass_spec h
  exact ⟨c, z_AT h2 h3, h1⟩
theorem z_obj {s : State} {args : Array Value} {C : String} (h : (Cond.arrayOver (.object C)).before args s = true) : ∃ cA, ArrOfT s cA (.object C) ∧ va_RA s cA (.object C) := by
  obtain ⟨comp, c, k, h1, -, h3, h4, h5⟩ := Cond.arrayOver_spec h
  exact ⟨c, z_AT h3 h4, k, comp, h3, h4, h1, h5⟩
theorem z_K {s : State} {args : Array Value} (hts : ∀ w ∈ lw_tbl, w.before args s = true) : ∃ (dC : Nat → ClassId) (dI : Nat → Nat → Nat) (cA cQ : ClassId), va_K (dC, dI) vwCl (XT2 cA cQ) s := by
  obtain ⟨c0, i0, k0⟩ := u_known hts inX0 (hts (.instantiable RX0 6) (by decide +kernel))
  obtain ⟨c1, i1, k1⟩ := u_known hts inX1 (hts (.instantiable RX1 2) (by decide +kernel))
  obtain ⟨c2, i2, k2⟩ := u_known hts inX3 (hts (.instantiable RX3 1) (by decide +kernel))
  obtain ⟨c3, i3, k3⟩ := u_known hts inX4 (hts (.instantiable RX4 8) (by decide +kernel))
  obtain ⟨c4, i4, k4⟩ := u_known hts inX5 (hts (.instantiable RX5 8) (by decide +kernel))
  obtain ⟨c5, i5, k5⟩ := u_known hts inX6 (hts (.instantiable RX6 3) (by decide +kernel))
  obtain ⟨c6, i6, k6⟩ := u_known hts inX7 (hts (.instantiable RX7 5) (by decide +kernel))
  obtain ⟨cA, a1, a2⟩ := z_int (hts (.arrayClass .int) (by decide +kernel))
  obtain ⟨cQ, q1, q2⟩ := z_obj (C := "RoadNames$State") (hts (.arrayOver (.object "RoadNames$State")) (by decide +kernel))
  refine ⟨fun c => match c with | 0 => c0 | 1 => c1 | 2 => c2 | 3 => c3 | 4 => c4 | 5 => c5 | _ => c6, fun c => match c with | 0 => i0 | 1 => i1 | 2 => i2 | 3 => i3 | 4 => i4 | 5 => i5 | _ => i6, cA, cQ, fun c q hq => ?_, fun k q hq => ?_⟩
  · match c, hq with
    | 0, hq => cases hq; exact k0
    | 1, hq => cases hq; exact k1
    | 2, hq => cases hq; exact k2
    | 3, hq => cases hq; exact k3
    | 4, hq => cases hq; exact k4
    | 5, hq => cases hq; exact k5
    | 6, hq => cases hq; exact k6
    | n + 7, hq => cases hq
  · match k, hq with
    | 0, hq => cases hq; exact ⟨a1, a2⟩
    | 1, hq => cases hq; exact ⟨q1, q2⟩
    | n + 2, hq => cases hq
theorem z_ex {s : State} {args : Array Value} {t : Term} {C : String} (h : (Cond.exactly t C).before args s = true) : ∃ a, t.eval args s none [] s = some (.ref a) := by
  obtain ⟨a, c, cell, k, h1, -⟩ := Cond.exactly_spec h
  exact ⟨a, h1⟩
theorem z_xE {s : State} {args : Array Value} (hts : ∀ w ∈ lw_tbl, w.before args s = true) (hgv : (Jvm.Cond.and given_1 narrow_1).before args s = true) : xE s := by
  have hg := flat_of_before _ hgv
  refine ⟨vx_Zqof (hts _ (by decide +kernel)) (hts _ (by decide +kernel)) (hg _ (by decide +kernel)) (fun a h => Nat.not_le.mpr h), vx_Zqof (hts _ (by decide +kernel)) (hts _ (by decide +kernel)) (hg _ (by decide +kernel)) (fun a h => Nat.not_le.mpr h), fun q hq => ?_, fun x hx => ?_, fun x hx => ?_⟩
  · have h1 : ∀ q ∈ xSt, Cond.stringRef RX7 q.1 q.2 ∈ lw_tbl := by decide +kernel
    have h2 : ∀ q ∈ xSt, Cond.exactly (.string RX7 q.1) "java/lang/String" ∈ flatC (Jvm.Cond.and given_1 narrow_1) := by decide +kernel
    obtain ⟨a, ha⟩ := z_ex (hg _ (h2 q hq))
    exact ⟨a, vk_R.of (hts _ (h1 q hq)) ha⟩
  · have h1 : ∀ x ∈ xDl, Cond.declares x ∈ lw_tbl := by decide +kernel
    exact va_Nw.of rfl (hts _ (h1 x hx))
  · have h1 : ∀ x ∈ xCs, Cond.castable x x ∈ lw_tbl := by decide +kernel
    exact va_Nw.of rfl (hts _ (h1 x hx))
theorem z_xN {s : State} {args : Array Value} (hgv : (Jvm.Cond.and given_1 narrow_1).before args s = true) : xN2 s := by
  have hg := flat_of_before _ hgv
  exact ⟨va_Nc.of (hg _ (by decide +kernel)), trivial⟩
theorem z_xA {s : State} {args : Array Value} (hts : ∀ w ∈ lw_tbl, w.before args s = true) : xA s :=
  ⟨va_AO.of (hts _ (by decide +kernel)), va_Nw.of rfl (hts _ (by decide +kernel)), va_Nw.of rfl (hts _ (by decide +kernel))⟩
