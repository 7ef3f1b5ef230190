/-! The law looks at all places. -/
/-- the best of some: the first of those that save the most -/
def Bst (g : Nat → Int32) (P : Nat → Prop) (b m : Int32) : Prop :=
  (b = -1 ∧ m = -1 ∧ ∀ i, P i → g i = -1) ∨ ∃ i w, i < 2 ^ 31 ∧ w < 2 ^ 31 ∧ P i ∧ b = nI i ∧ m = nI w ∧ g i = nI w ∧ ∀ j, P j → g j = -1 ∨ ∃ w', w' < 2 ^ 31 ∧ g j = nI w' ∧ w' ≤ w ∧ (w' = w → i ≤ j)
theorem m1_lt {w : Nat} (h : w < 2 ^ 31) : (-1 : Int32) < nI w := by
  rw [Int32.lt_iff_toInt_lt, nI_toInt h, show (-1 : Int32).toInt = -1 by decide]
  omega
theorem m1_nlt {w : Nat} (h : w < 2 ^ 31) : ¬ nI w < (-1 : Int32) := by
  rw [Int32.lt_iff_toInt_lt, nI_toInt h, show (-1 : Int32).toInt = -1 by decide]
  omega
theorem Bst.uniq {g : Nat → Int32} {P : Nat → Prop} {b m b2 m2 : Int32} (h1 : Bst g P b m) (h2 : Bst g P b2 m2) : b = b2 := by
  rcases h1 with ⟨a1, a2, a3⟩ | ⟨i, w, a1, a2, a3, a4, a5, a6, a7⟩
  · rcases h2 with ⟨c1, c2, c3⟩ | ⟨j, v, c1, c2, c3, c4, c5, c6, c7⟩
    · rw [a1, c1]
    · rw [a3 j c3] at c6
      exact absurd c6.symm (q_neg c2)
  · rcases h2 with ⟨c1, c2, c3⟩ | ⟨j, v, c1, c2, c3, c4, c5, c6, c7⟩
    · rw [c3 i a3] at a6
      exact absurd a6.symm (q_neg a2)
    · rcases a7 j c3 with d | ⟨w', d0, d1, d2, d3⟩
      · rw [d] at c6
        exact absurd c6.symm (q_neg c2)
      · rcases c7 i a3 with e | ⟨v', e0, e1, e2, e3⟩
        · rw [e] at a6
          exact absurd a6.symm (q_neg a2)
        · rw [c6, nI_eq c2 d0] at d1
          rw [a6, nI_eq a2 e0] at e1
          have h1 := d3 (by omega)
          have h2 := e3 (by omega)
          rw [a4, c4, show i = j by omega]
theorem bsf_B (g : Nat → Int32) : ∀ n, n < 2 ^ 31 → (∀ i, i < n → g i = -1 ∨ ∃ w, w < 2 ^ 31 ∧ g i = nI w) → Bst g (fun i => i < n) (bsf g n).1 (bsf g n).2
  | 0, _, _ => Or.inl ⟨rfl, rfl, fun i h => absurd h (Nat.not_lt_zero _)⟩
  | n + 1, hn, hg => by
    have ih := bsf_B g n (by omega) (fun i hi => hg i (by omega))
    show Bst g (fun i => i < n + 1) (if g n ≤ (bsf g n).2 then (bsf g n).1 else nI n) (if g n ≤ (bsf g n).2 then (bsf g n).2 else g n)
    rcases ih with ⟨a1, a2, a3⟩ | ⟨i, w, a1, a2, a3, a4, a5, a6, a7⟩
    · rw [a1, a2]
      rcases hg n (by omega) with h1 | ⟨w, h1, h2⟩
      · rw [if_pos (by rw [h1]; decide), if_pos (by rw [h1]; decide)]
        refine Or.inl ⟨rfl, rfl, fun i hi => ?_⟩
        rcases Nat.lt_or_ge i n with h2 | h2
        · exact a3 i h2
        · have : i = n := by omega
          rw [this, h1]
      · have : ¬ g n ≤ (-1 : Int32) := by rw [h2, Int32.not_le]; exact m1_lt h1
        rw [if_neg this, if_neg this]
        refine Or.inr ⟨n, w, by omega, h1, by omega, rfl, h2, h2, fun j hj => ?_⟩
        rcases Nat.lt_or_ge j n with h3 | h3
        · exact Or.inl (a3 j h3)
        · have : j = n := by omega
          exact Or.inr ⟨w, h1, by rw [this, h2], Nat.le_refl _, fun _ => by omega⟩
    · rw [a4, a5]
      rcases hg n (by omega) with h1 | ⟨v, h1, h2⟩
      · have : g n ≤ nI w := by rw [h1, ← Int32.not_lt]; exact m1_nlt a2
        rw [if_pos this, if_pos this]
        refine Or.inr ⟨i, w, a1, a2, by have : i < n := a3; omega, rfl, rfl, a6, fun j hj => ?_⟩
        rcases Nat.lt_or_ge j n with h3 | h3
        · exact a7 j h3
        · have : j = n := by omega
          exact Or.inl (by rw [this, h1])
      · rcases Nat.lt_or_ge w v with h3 | h3
        · have : ¬ g n ≤ nI w := by rw [h2]; exact nI_ge h3 h1
          rw [if_neg this, if_neg this]
          refine Or.inr ⟨n, v, by omega, h1, by omega, rfl, h2, h2, fun j hj => ?_⟩
          rcases Nat.lt_or_ge j n with h4 | h4
          · rcases a7 j h4 with d | ⟨w', d0, d1, d2, d3⟩
            · exact Or.inl d
            · exact Or.inr ⟨w', d0, d1, by omega, fun e => by omega⟩
          · have : j = n := by omega
            exact Or.inr ⟨v, h1, by rw [this, h2], Nat.le_refl _, fun _ => by omega⟩
        · have : g n ≤ nI w := by rw [h2]; exact nI_le h3 a2
          rw [if_pos this, if_pos this]
          have hi : i < n := a3
          refine Or.inr ⟨i, w, a1, a2, by omega, rfl, rfl, a6, fun j hj => ?_⟩
          rcases Nat.lt_or_ge j n with h4 | h4
          · exact a7 j h4
          · have : j = n := by omega
            exact Or.inr ⟨v, h1, by rw [this, h2], h3, fun _ => by omega⟩
def uB (b m i s : Int32) : Int32 := if m < s then i else (if s = m then (if s < 0 then b else (if b ≤ i then b else i)) else b)
def uM (b m i s : Int32) : Int32 := if m < s then s else (if s = m then (if s < 0 then m else (if b ≤ i then m else s)) else m)
theorem Bst.law {g : Nat → Int32} {P : Nat → Prop} {b m : Int32} (h : Bst g P b m) {i : Nat} (hi : i < 2 ^ 31) (hs : g i = -1 ∨ ∃ w, w < 2 ^ 31 ∧ g i = nI w) : Bst g (fun j => P j ∨ j = i) (uB b m (nI i) (g i)) (uM b m (nI i) (g i)) := by
  unfold uB uM
  rcases h with ⟨a1, a2, a3⟩ | ⟨i0, w, a1, a2, a3, a4, a5, a6, a7⟩
  · rw [a1, a2]
    rcases hs with h1 | ⟨v, h1, h2⟩
    · rw [h1]
      have d1 : ¬ (-1 : Int32) < -1 := by decide
      have d2 : (-1 : Int32) < 0 := by decide
      rw [if_neg d1, if_pos rfl, if_pos d2, if_neg d1, if_pos rfl, if_pos d2]
      refine Or.inl ⟨rfl, rfl, fun j hj => ?_⟩
      rcases hj with hj | hj
      · exact a3 j hj
      · rw [hj, h1]
    · rw [h2, if_pos (m1_lt h1), if_pos (m1_lt h1)]
      refine Or.inr ⟨i, v, hi, h1, Or.inr rfl, rfl, rfl, h2, fun j hj => ?_⟩
      rcases hj with hj | hj
      · exact Or.inl (a3 j hj)
      · exact Or.inr ⟨v, h1, by rw [hj, h2], Nat.le_refl _, fun _ => by omega⟩
  · rw [a4, a5]
    rcases hs with h1 | ⟨v, h1, h2⟩
    · have e1 : ¬ nI w < g i := by rw [h1]; exact m1_nlt a2
      have e2 : ¬ g i = nI w := by rw [h1]; exact fun e => q_neg a2 e.symm
      rw [if_neg e1, if_neg e2, if_neg e1, if_neg e2]
      refine Or.inr ⟨i0, w, a1, a2, Or.inl a3, rfl, rfl, a6, fun j hj => ?_⟩
      rcases hj with hj | hj
      · exact a7 j hj
      · exact Or.inl (by rw [hj, h1])
    · rcases Nat.lt_trichotomy w v with h3 | h3 | h3
      · have e1 : nI w < g i := by rw [h2]; exact nI_lt h3 h1
        rw [if_pos e1, if_pos e1]
        refine Or.inr ⟨i, v, hi, h1, Or.inr rfl, rfl, h2, h2, fun j hj => ?_⟩
        rcases hj with hj | hj
        · rcases a7 j hj with d | ⟨w', d0, d1, d2, d3⟩
          · exact Or.inl d
          · exact Or.inr ⟨w', d0, d1, by omega, fun e => by omega⟩
        · exact Or.inr ⟨v, h1, by rw [hj, h2], Nat.le_refl _, fun _ => by omega⟩
      · subst h3
        have e1 : ¬ nI w < g i := by rw [h2]; exact nI_nlt (Nat.le_refl _) a2
        have e3 : ¬ g i < 0 := by rw [h2]; exact nI_pos a2
        rw [if_neg e1, if_pos h2, if_neg e3, if_neg e1, if_pos h2, if_neg e3]
        rcases Nat.lt_or_ge i i0 with h4 | h4
        · have e4 : ¬ nI i0 ≤ nI i := nI_ge h4 a1
          rw [if_neg e4, if_neg e4]
          refine Or.inr ⟨i, w, hi, a2, Or.inr rfl, rfl, h2, h2, fun j hj => ?_⟩
          rcases hj with hj | hj
          · rcases a7 j hj with d | ⟨w', d0, d1, d2, d3⟩
            · exact Or.inl d
            · exact Or.inr ⟨w', d0, d1, d2, fun e => by have := d3 e; omega⟩
          · exact Or.inr ⟨w, a2, by rw [hj, h2], Nat.le_refl _, fun _ => by omega⟩
        · have e4 : nI i0 ≤ nI i := nI_le h4 hi
          rw [if_pos e4, if_pos e4]
          refine Or.inr ⟨i0, w, a1, a2, Or.inl a3, rfl, rfl, a6, fun j hj => ?_⟩
          rcases hj with hj | hj
          · exact a7 j hj
          · exact Or.inr ⟨w, a2, by rw [hj, h2], Nat.le_refl _, fun _ => by omega⟩
      · have e1 : ¬ nI w < g i := by rw [h2]; exact nI_nlt (by omega) a2
        have e2 : ¬ g i = nI w := fun e => by
          rw [h2] at e
          have := (nI_eq h1 a2).mp e
          omega
        rw [if_neg e1, if_neg e2, if_neg e1, if_neg e2]
        refine Or.inr ⟨i0, w, a1, a2, Or.inl a3, rfl, rfl, a6, fun j hj => ?_⟩
        rcases hj with hj | hj
        · exact a7 j hj
        · exact Or.inr ⟨v, h1, by rw [hj, h2], by omega, fun e => by omega⟩
theorem Bst.congr {g : Nat → Int32} {P Q : Nat → Prop} {b m : Int32} (h : Bst g P b m) (e : ∀ j, P j ↔ Q j) : Bst g Q b m := by
  rcases h with ⟨a1, a2, a3⟩ | ⟨i, w, a1, a2, a3, a4, a5, a6, a7⟩
  · exact Or.inl ⟨a1, a2, fun j hj => a3 j ((e j).mpr hj)⟩
  · exact Or.inr ⟨i, w, a1, a2, (e i).mp a3, a4, a5, a6, fun j hj => a7 j ((e j).mpr hj)⟩
theorem sm_bd {f : Nat → Int32} : ∀ n, (∀ p, p < n → ∃ w : Nat, w ≤ 99 ∧ f p = nI w) → ∃ w : Nat, w ≤ 99 * n ∧ sm f n = nI w
  | 0, _ => ⟨0, by omega, rfl⟩
  | n + 1, h => by
    obtain ⟨w, h1, h2⟩ := sm_bd n (fun p hp => h p (by omega))
    obtain ⟨v, h3, h4⟩ := h n (by omega)
    exact ⟨w + v, by omega, by rw [sm_s, h2, h4, nI_add]⟩
section Same
variable {na we hq : Nat → Int32} {H : Nat} {k : Nat → Nat} {W : Nat → Int32} {C : Nat → Prop} {N : Nat} {n : Nat → Nat}
variable {ks ws pa ca ra ni wi ho : Nat → Int32}
theorem wbl_b (hL : LI na we hq C W) (hT : Tn H k C N n W) (x : Nat) : ∃ w, w < 2 ^ 31 ∧ wbl N n W x = nI w := by
  rw [a_wbl hL hT]
  obtain ⟨w, h1, h2⟩ := sm_bd (f := fun p => if na p = 1 then (if bgB x (pcd p) then we p else 0) else 0) 15 (fun p hp => by
    show ∃ w : Nat, w ≤ 99 ∧ (if na p = 1 then (if bgB x (pcd p) then we p else 0) else 0) = nI w
    by_cases e : na p = 1
    · rw [if_pos e]
      by_cases e2 : bgB x (pcd p) = true
      · rw [if_pos e2]
        exact (hL.1 p hp).2.2.2.2 e
      · rw [if_neg e2]
        exact ⟨0, by omega, rfl⟩
    · rw [if_neg e]
      exact ⟨0, by omega, rfl⟩)
  exact ⟨w, by omega, h2⟩
theorem svl_b (hL : LI na we hq C W) (hT : Tn H k C N n W) (L : Int32) (i : Nat) : svl L H k N n W i = -1 ∨ ∃ w, w < 2 ^ 31 ∧ svl L H k N n W i = nI w := by
  unfold svl
  by_cases e : why L H k W i ≤ 0
  · rw [if_pos e]
    exact Or.inr (wbl_b hL hT _)
  · rw [if_neg e]
    exact Or.inl rfl
theorem s326 (hK : Kc ks ws H k W) (hS : Sv H k N n W pa ca ra ni wi ho) (hT : Tn H k C N n W) (hL : LI na we hq C W) (q : Nat → Int32) {p : Nat} (hp : p < 15) (e : hq p = 1) (a5 a6 a7 a8 a9 : Int32) (rec9 : Int32 → Int32 → Int32 → Int32 → Int32 → Int32 → Option (Int32 × Int32 × Int32 × Int32 × Int32 × Int32)) :
    mL_same_J326 (nI H) ks ws pa ca ra ni wi (nI (plc H k (pcd p))) (nI (plet p)) (nI (plen p)) (nI (lb k (plc H k (pcd p)))) hq (nI p) na we q (q 0) a5 a6 a7 a9 a8 rec9 =
    rec9 a5 a6 a7 (uB a8 a9 (nI (plc H k (pcd p))) (svl (q 0) H k N n W (plc H k (pcd p)))) (uM a8 a9 (nI (plc H k (pcd p))) (svl (q 0) H k N n W (plc H k (pcd p)))) (nI (p + 1)) := by
  obtain ⟨i1, i2⟩ := hT.1.ixe (((hL.1 p hp).2.2.1).mp e)
  obtain ⟨v0, v1, v2, v3, v4, v5, v6, v7, v8⟩ := hv_c hT hL hp e
  have c0 : mX7_house_n (nI H) ks ws pa ca ra ni wi (nI (plc H k (pcd p))) 0 = some (nI (plet p)) := (c_house hK hS hT.1 i1 (j := 0) (by decide)).trans (by rw [v0])
  have c1 : mX7_house_n (nI H) ks ws pa ca ra ni wi (nI (plc H k (pcd p))) 1 = some (nI (plen p)) := (c_house hK hS hT.1 i1 (j := 1) (by decide)).trans (by rw [v1])
  have c2 : mX7_house_n (nI H) ks ws pa ca ra ni wi (nI (plc H k (pcd p))) 2 = some (hvl H k N n W (plc H k (pcd p)) (nI 2)) := c_house hK hS hT.1 i1 (j := 2) (by decide)
  have c3 : mX7_house_n (nI H) ks ws pa ca ra ni wi (nI (plc H k (pcd p))) 3 = some (nI (lb k (plc H k (pcd p)))) := (c_house hK hS hT.1 i1 (j := 3) (by decide)).trans (by rw [v3])
  have c4 : mX7_house_n (nI H) ks ws pa ca ra ni wi (nI (plc H k (pcd p))) 4 = some (nI (ch H k (plc H k (pcd p)))) := (c_house hK hS hT.1 i1 (j := 4) (by decide)).trans (by rw [v4])
  have c5 : mX7_house_n (nI H) ks ws pa ca ra ni wi (nI (plc H k (pcd p))) 5 = some (na p) := (c_house hK hS hT.1 i1 (j := 5) (by decide)).trans (by rw [v5])
  have c6 : mX7_house_n (nI H) ks ws pa ca ra ni wi (nI (plc H k (pcd p))) 6 = some (nI (nbl N n (pcd p))) := (c_house hK hS hT.1 i1 (j := 6) (by decide)).trans (by rw [v6])
  have c7 : mX7_house_n (nI H) ks ws pa ca ra ni wi (nI (plc H k (pcd p))) 7 = some (wbl N n W (pcd p)) := (c_house hK hS hT.1 i1 (j := 7) (by decide)).trans (by rw [v7])
  have c8 : mX7_house_n (nI H) ks ws pa ca ra ni wi (nI (plc H k (pcd p))) 8 = some (nI (dp H k (pcd p) - 1)) := (c_house hK hS hT.1 i1 (j := 8) (by decide)).trans (by rw [v8])
  have esv : svl (q 0) H k N n W (plc H k (pcd p)) = if why (q 0) H k W (plc H k (pcd p)) = 0 then wbl N n W (pcd p) else -1 := by
    unfold svl
    rw [i2]
    by_cases w : why (q 0) H k W (plc H k (pcd p)) = 0
    · rw [if_pos w, if_pos ((why_le _ _ _ _ _).mpr w)]
    · rw [if_neg w, if_neg (fun h => w ((why_le _ _ _ _ _).mp h))]
  unfold mL_same_J326
  rw [c0, Option.bind_some, if_pos rfl, c1, Option.bind_some, if_pos rfl, c2, Option.bind_some, v2, Option.bind_some, if_pos rfl, c3, Option.bind_some, if_pos rfl, c4, Option.bind_some, l_ch hL hT.1 hp e, Option.bind_some, if_pos rfl, c5, Option.bind_some, rd15 na hp, Option.bind_some, if_pos rfl]
  unfold mL_same_J414
  rw [c6, Option.bind_some, l_nbl hL hT hp, Option.bind_some, if_pos rfl, c7, Option.bind_some, l_wbl hL hT hp, Option.bind_some, if_pos rfl, c8, Option.bind_some, l_rd hL hT.1 hp, Option.bind_some, if_pos rfl]
  unfold mL_same_J472
  rw [a_why hL hT hp e q, Option.bind_some]
  have j498 : mL_same_J498 (nI H) (q 0) ks ws pa ca wi (nI (plc H k (pcd p))) (svl (q 0) H k N n W (plc H k (pcd p))) a5 a6 a7 a9 a8 (nI p) rec9 = rec9 a5 a6 a7 (uB a8 a9 (nI (plc H k (pcd p))) (svl (q 0) H k N n W (plc H k (pcd p)))) (uM a8 a9 (nI (plc H k (pcd p))) (svl (q 0) H k N n W (plc H k (pcd p)))) (nI (p + 1)) := by
    unfold mL_same_J498
    rw [c_sav hK hS hT i1, Option.bind_some, if_pos rfl]
    unfold mL_same_J511 mL_same_J545
    rw [nI_1]
    rfl
  by_cases w : why (q 0) H k W (plc H k (pcd p)) = 0
  · rw [if_pos w, l_wbl hL hT hp, Option.bind_some, ← j498, esv, if_pos w]
  · rw [if_neg w, ← j498, esv, if_neg w]
theorem s282 (hK : Kc ks ws H k W) (hS : Sv H k N n W pa ca ra ni wi ho) (hT : Tn H k C N n W) (hL : LI na we hq C W) (q : Nat → Int32) {p : Nat} (hp : p < 15) (a5 a6 a7 a8 a9 : Int32) (rec9 : Int32 → Int32 → Int32 → Int32 → Int32 → Int32 → Option (Int32 × Int32 × Int32 × Int32 × Int32 × Int32)) :
    mL_same_J282 hq (nI p) a5 a6 a7 a8 a9 (nI H) ks ws pa ca ra ni wi (nI (plet p)) (nI (plen p)) na we q (q 0) rec9 =
    rec9 a5 a6 a7 (if hq p = 1 then uB a8 a9 (nI (plc H k (pcd p))) (svl (q 0) H k N n W (plc H k (pcd p))) else a8) (if hq p = 1 then uM a8 a9 (nI (plc H k (pcd p))) (svl (q 0) H k N n W (plc H k (pcd p))) else a9) (nI (p + 1)) := by
  unfold mL_same_J282
  rw [rd15 hq hp, Option.bind_some]
  by_cases e : hq p = 1
  · rw [if_pos e, if_pos e, if_neg (by rw [e]; decide), l_idx1 hL hT.1 hp e, Option.bind_some]
    by_cases h0 : p = 0
    · subst h0
      rw [if_pos nI_0, ← s326 hK hS hT hL q hp e a5 a6 a7 a8 a9 rec9, lb_root hT.1]
      rfl
    · obtain ⟨p1, p2⟩ := l_par hL hT.1 hp h0 e
      rw [if_neg (nI_ne0 (by omega) (by omega)), p1, Option.bind_some, p2, ← s326 hK hS hT hL q hp e a5 a6 a7 a8 a9 rec9]
  · have e0 : hq p = 0 := by
      rcases hL.h01 p hp with h | h
      · exact h
      · exact absurd h e
    rw [if_neg e, if_neg e, if_pos e0]
    unfold mL_same_J545
    rw [nI_1]
theorem s78 (hK : Kc ks ws H k W) (hS : Sv H k N n W pa ca ra ni wi ho) (hT : Tn H k C N n W) (hL : LI na we hq C W) (q : Nat → Int32) {p : Nat} (hp : p < 15) (x5 x6 x7 x8 x9 : Int32) (rec9 : Int32 → Int32 → Int32 → Int32 → Int32 → Int32 → Option (Int32 × Int32 × Int32 × Int32 × Int32 × Int32)) :
    mL_same_J78 (nI p) (nI H) (q 0) ks ws pa ca (nI (plet p)) (nI (plen p)) hq q na we x5 x6 x7 x8 x9 ra ni wi ho rec9 =
    rec9 (x5 + na p) (x6 + hq p) (x7 + (if na p = 1 then we p else 0)) (if hq p = 1 then uB x8 x9 (nI (plc H k (pcd p))) (svl (q 0) H k N n W (plc H k (pcd p))) else x8) (if hq p = 1 then uM x8 x9 (nI (plc H k (pcd p))) (svl (q 0) H k N n W (plc H k (pcd p))) else x9) (nI (p + 1)) := by
  have h := hT.1
  have j242 : mL_same_J242 na (nI p) hq we x5 x6 x7 x8 x9 (nI H) ks ws pa ca ra ni wi (nI (plet p)) (nI (plen p)) q (q 0) rec9 = rec9 (x5 + na p) (x6 + hq p) (x7 + (if na p = 1 then we p else 0)) (if hq p = 1 then uB x8 x9 (nI (plc H k (pcd p))) (svl (q 0) H k N n W (plc H k (pcd p))) else x8) (if hq p = 1 then uM x8 x9 (nI (plc H k (pcd p))) (svl (q 0) H k N n W (plc H k (pcd p))) else x9) (nI (p + 1)) := by
    unfold mL_same_J242
    rw [rd15 na hp, Option.bind_some, rd15 hq hp, Option.bind_some, Option.bind_some]
    by_cases e : na p = 1
    · rw [if_pos e, rd15 we hp, Option.bind_some, s282 hK hS hT hL q hp, if_pos e]
    · rw [if_neg e, s282 hK hS hT hL q hp, if_neg e]
  rw [← j242]
  have j164 : mL_same_J164 (nI p) na hq we x5 x6 x7 x8 x9 (nI H) ks ws pa ca ra ni wi (nI (plet p)) (nI (plen p)) q (q 0) ho rec9 = mL_same_J242 na (nI p) hq we x5 x6 x7 x8 x9 (nI H) ks ws pa ca ra ni wi (nI (plet p)) (nI (plen p)) q (q 0) rec9 := by
    unfold mL_same_J164
    by_cases h0 : p = 0
    · subst h0
      rw [if_pos (by decide)]
    · rw [if_neg (nI_nle (by omega) (by omega)), rd15 na hp, Option.bind_some]
      by_cases e : na p = 1
      · obtain ⟨r1, r2, r3, r4, r5, r6⟩ := nv_c hT hL hp e
        have c0 : mX7_nth_n ks ws ra ni ho (nI (plc N n (pcd p))) 0 = some (nI (plet p)) := (c_nth hK hS hT r1 (i := 0) (by decide)).trans (by rw [r3])
        have c1 : mX7_nth_n ks ws ra ni ho (nI (plc N n (pcd p))) 1 = some (nI (plen p)) := (c_nth hK hS hT r1 (i := 1) (by decide)).trans (by rw [r4])
        have c2 : mX7_nth_n ks ws ra ni ho (nI (plc N n (pcd p))) 2 = some (we p) := (c_nth hK hS hT r1 (i := 2) (by decide)).trans (by rw [r5])
        have c3 : mX7_nth_n ks ws ra ni ho (nI (plc N n (pcd p))) 3 = some (nI (dp H k (pcd p) - 1)) := (c_nth hK hS hT r1 (i := 3) (by decide)).trans (by rw [r6])
        rw [if_pos e, l_rank hL hT hp, Option.bind_some, c0, Option.bind_some, if_pos rfl, c1, Option.bind_some, if_pos rfl, c2, Option.bind_some, rd15 we hp, Option.bind_some, if_pos rfl, c3, Option.bind_some, l_rd hL h hp, Option.bind_some, if_pos rfl]
      · rw [if_neg e]
  rw [← j164]
  have j129 : mL_same_J129 (nI H) (q 0) ks ws pa ca (nI (plet p)) (nI (plen p)) hq (nI p) q na we x5 x6 x7 x8 x9 ra ni wi ho rec9 = mL_same_J164 (nI p) na hq we x5 x6 x7 x8 x9 (nI H) ks ws pa ca ra ni wi (nI (plet p)) (nI (plen p)) q (q 0) ho rec9 := by
    unfold mL_same_J129
    by_cases e : hq p = 1
    · rw [c_why1 hK hS hT hp (((hL.1 p hp).2.2.1).mp e), Option.bind_some, rd15 hq hp, Option.bind_some, if_pos e, a_why hL hT hp e q, Option.bind_some, if_pos rfl]
    · rw [c_why0 hK h hp (fun hc => e (((hL.1 p hp).2.2.1).mpr hc)), Option.bind_some, rd15 hq hp, Option.bind_some, if_neg e, if_pos rfl]
  rw [← j129]
  unfold mL_same_J78
  by_cases h0 : p = 0
  · subst h0
    rw [if_pos (by decide)]
  · rw [if_neg (nI_nle (by omega) (by omega)), c_rank hK hS hT hp h0, Option.bind_some, l_rank hL hT hp, Option.bind_some, if_pos rfl, c_wgt hK hT hp h0, Option.bind_some, rd15 na hp, Option.bind_some]
    by_cases e : na p = 1
    · rw [if_pos e, rd15 we hp, Option.bind_some, if_pos (hL.ww hp e)]
    · have hw : W (pcd p) = -1 := by
        rw [(hL.1 p hp).2.2.2.1, if_neg e]
      rw [if_neg e, if_pos hw]
theorem same_l (hK : Kc ks ws H k W) (hS : Sv H k N n W pa ca ra ni wi ho) (hT : Tn H k C N n W) (hL : LI na we hq C W) (q : Nat → Int32) :
    ∃ b m, Bst (svl (q 0) H k N n W) (fun i => i < H) b m ∧ mL_same_L18 (nI H) ks hq ni na we (q 0) ws pa ca q ra wi ho FU 0 0 0 (-1) (-1) 0 = some (sm na 15, sm hq 15, sm (fun p => if na p = 1 then we p else 0) 15, b, m, nI 15) := by
  have h := hT.1
  have hH := h.le
  obtain ⟨t, ht, e⟩ := lpI (fun m i (s : Int32 × Int32 × Int32 × Int32 × Int32) => mL_same_L18 (nI H) ks hq ni na we (q 0) ws pa ca q ra wi ho m s.1 s.2.1 s.2.2.1 s.2.2.2.1 s.2.2.2.2 (nI i)) 15
    (fun p s => s.1 = sm na p ∧ s.2.1 = sm hq p ∧ s.2.2.1 = sm (fun p => if na p = 1 then we p else 0) p ∧ Bst (svl (q 0) H k N n W) (fun i => ∃ r, r < p ∧ hq r = 1 ∧ i = plc H k (pcd r)) s.2.2.2.1 s.2.2.2.2)
    (fun t => t.1 = sm na 15 ∧ t.2.1 = sm hq 15 ∧ t.2.2.1 = sm (fun p => if na p = 1 then we p else 0) 15 ∧ Bst (svl (q 0) H k N n W) (fun i => ∃ r, r < 15 ∧ hq r = 1 ∧ i = plc H k (pcd r)) t.2.2.2.1 t.2.2.2.2.1 ∧ t.2.2.2.2.2 = nI 15)
    (fun m p s hp hI => by
      obtain ⟨s5, s6, s7, s8, s9⟩ := s
      obtain ⟨i1, i2, i3, i4⟩ := hI
      refine ⟨(s5 + na p, s6 + hq p, s7 + (if na p = 1 then we p else 0), if hq p = 1 then uB s8 s9 (nI (plc H k (pcd p))) (svl (q 0) H k N n W (plc H k (pcd p))) else s8, if hq p = 1 then uM s8 s9 (nI (plc H k (pcd p))) (svl (q 0) H k N n W (plc H k (pcd p))) else s9), ⟨?_, ?_, ?_, ?_⟩, ?_⟩
      · show s5 + na p = _
        rw [sm_s]
        exact congrArg (· + na p) i1
      · show s6 + hq p = _
        rw [sm_s]
        exact congrArg (· + hq p) i2
      · show s7 + _ = _
        rw [sm_s]
        exact congrArg (· + (if na p = 1 then we p else 0)) i3
      · show Bst _ _ (if hq p = 1 then _ else s8) (if hq p = 1 then _ else s9)
        by_cases e : hq p = 1
        · have hix := (h.ixe (((hL.1 p hp).2.2.1).mp e)).1
          rw [if_pos e, if_pos e]
          refine (i4.law (i := plc H k (pcd p)) (by omega) (svl_b hL hT (q 0) _)).congr (fun j => ?_)
          constructor
          · intro hj
            rcases hj with ⟨r, h1, h2, h3⟩ | hj
            · exact ⟨r, by omega, h2, h3⟩
            · exact ⟨p, by omega, e, hj⟩
          · intro ⟨r, h1, h2, h3⟩
            rcases Nat.lt_or_ge r p with h4 | h4
            · exact Or.inl ⟨r, h4, h2, h3⟩
            · have : r = p := by omega
              subst this
              exact Or.inr h3
        · rw [if_neg e, if_neg e]
          refine i4.congr (fun j => ?_)
          constructor
          · intro ⟨r, h1, h2, h3⟩
            exact ⟨r, by omega, h2, h3⟩
          · intro ⟨r, h1, h2, h3⟩
            rcases Nat.lt_or_ge r p with h4 | h4
            · exact ⟨r, h4, h2, h3⟩
            · have : r = p := by omega
              subst this
              exact absurd h2 e
      · show mL_same_L18 (nI H) ks hq ni na we (q 0) ws pa ca q ra wi ho (m + 1) s5 s6 s7 s8 s9 (nI p) = mL_same_L18 (nI H) ks hq ni na we (q 0) ws pa ca q ra wi ho m _ _ _ _ _ (nI (p + 1))
        rw [mL_same_L18, if_neg (ge15 hp), pc_let0 p hp, Option.bind_some, pc_len0 p hp]
        have hof : ∃ v, mX7_houseOf_n (nI H) ks (nI (plet p)) (nI (plen p)) = some v ∧ mL_index hq (nI p) = some v := by
          by_cases e : hq p = 1
          · exact ⟨_, c_hof1 hK h hp (((hL.1 p hp).2.2.1).mp e), l_idx1 hL h hp e⟩
          · exact ⟨_, c_hof0 hK h hp (fun hc => e (((hL.1 p hp).2.2.1).mpr hc)), l_idx0 hp e⟩
        obtain ⟨v, f1, f2⟩ := hof
        rw [f1, Option.bind_some, f2, Option.bind_some, if_pos rfl, c_cnt hK hS hT hp, Option.bind_some, l_nbl hL hT hp, Option.bind_some, if_pos rfl]
        exact s78 hK hS hT hL q hp s5 s6 s7 s8 s9 _)
    (fun m s hI => by
      refine ⟨(s.1, s.2.1, s.2.2.1, s.2.2.2.1, s.2.2.2.2, nI 15), ⟨hI.1, hI.2.1, hI.2.2.1, hI.2.2.2, rfl⟩, ?_⟩
      show mL_same_L18 (nI H) ks hq ni na we (q 0) ws pa ca q ra wi ho (m + 1) s.1 s.2.1 s.2.2.1 s.2.2.2.1 s.2.2.2.2 (nI 15) = _
      rw [mL_same_L18, if_pos le15])
    15 FU 0 (0, 0, 0, -1, -1) rfl (by unfold FU; omega) ⟨rfl, rfl, rfl, Or.inl ⟨rfl, rfl, fun i ⟨r, h1, _⟩ => absurd h1 (Nat.not_lt_zero _)⟩⟩
  obtain ⟨t1, t2, t3, t4, t5, t6⟩ := t
  obtain ⟨h1, h2, h3, h4, h5⟩ := ht
  have h1 : t1 = _ := h1
  have h2 : t2 = _ := h2
  have h3 : t3 = _ := h3
  have h5 : t6 = _ := h5
  refine ⟨t4, t5, h4.congr (fun j => ?_), ?_⟩
  · constructor
    · intro ⟨r, e1, e2, e3⟩
      rw [e3]
      exact (h.ixe (((hL.1 r e1).2.2.1).mp e2)).1
    · intro hj
      obtain ⟨r, hr, er⟩ := hL.2 _ (h.c hj)
      refine ⟨r, hr, ((hL.1 r hr).2.2.1).mpr (by rw [← er]; exact h.c hj), ?_⟩
      rw [← er, h.ixi hj]
  · rw [show mL_same_L18 (nI H) ks hq ni na we (q 0) ws pa ca q ra wi ho FU 0 0 0 (-1) (-1) 0 = _ from e, h1, h2, h3, h5]
theorem same_c (hK : Kc ks ws H k W) (hS : Sv H k N n W pa ca ra ni wi ho) (hT : Tn H k C N n W) (hL : LI na we hq C W) (q : Nat → Int32) (tl : Int32) :
    mL_same (nI H) (q 0) (q 1) (q 2) (q 3) (q 4) ks ws pa ca ra ni wi ho tl q na we hq = some 1 := by
  have h := hT.1
  have hH := h.le
  obtain ⟨b, m, hB, e⟩ := same_l hK hS hT hL q
  have hB2 := bsf_B (svl (q 0) H k N n W) H (by omega) (fun i _ => svl_b hL hT (q 0) i)
  have eb := hB.uniq hB2
  have tv : ∀ (i : Nat) (v : Int32), i < 11 → mX5_townValue (nI H) (q 0) (q 1) (q 2) (q 3) (q 4) ks ws pa ra ni ho (nI i) = some v → mX7_whole_n (nI H) (q 0) (q 1) (q 2) (q 3) (q 4) ks ws pa ra ni ho tl (nI i) = some v := by
    intro i v hi hv
    unfold mX7_whole_n
    rw [wh12 i (by omega), Option.bind_some, if_neg (show ¬ nI i = 11 from fun e => by
      have := (nI_eq (b := 11) (show i < 2 ^ 31 by omega) (by decide)).mp e
      omega), hv, Option.bind_some]
  have w0 : mX7_whole_n (nI H) (q 0) (q 1) (q 2) (q 3) (q 4) ks ws pa ra ni ho tl 0 = some (sm na 15) := tv 0 _ (by decide) (by
    unfold mX5_townValue
    rw [← a_N hL hT]
    rw [cnames_c hS h hT.2.1]
    rfl)
  have w1 : mX7_whole_n (nI H) (q 0) (q 1) (q 2) (q 3) (q 4) ks ws pa ra ni ho tl 1 = some (sm hq 15) := tv 1 _ (by decide) (by
    unfold mX5_townValue
    rw [← a_H hL h.en]
    rfl)
  have w3 : mX7_whole_n (nI H) (q 0) (q 1) (q 2) (q 3) (q 4) ks ws pa ra ni ho tl 3 = some (cst H k N n W) := tv 3 _ (by decide) (by
    unfold mX5_townValue
    rw [ccost_c hK hS hT]
    rfl)
  have w7 : mX7_whole_n (nI H) (q 0) (q 1) (q 2) (q 3) (q 4) ks ws pa ra ni ho tl 7 = some (q 1) := tv 7 _ (by decide) rfl
  have w8 : mX7_whole_n (nI H) (q 0) (q 1) (q 2) (q 3) (q 4) ks ws pa ra ni ho tl 8 = some (q 2) := tv 8 _ (by decide) rfl
  have w9 : mX7_whole_n (nI H) (q 0) (q 1) (q 2) (q 3) (q 4) ks ws pa ra ni ho tl 9 = some (q 3) := tv 9 _ (by decide) rfl
  have w10 : mX7_whole_n (nI H) (q 0) (q 1) (q 2) (q 3) (q 4) ks ws pa ra ni ho tl 10 = some (q 4) := tv 10 _ (by decide) rfl
  have hw : mX7_house_n (nI H) ks ws pa ca ra ni wi 0 7 = some (sm (fun p => if na p = 1 then we p else 0) 15) := by
    refine (c_house hK hS h (i := 0) h.pos (j := 7) (by decide)).trans (congrArg some ?_)
    show wbl N n W (k 0) = _
    rw [h.k0, a_wbl hL hT]
    refine sm_congr (fun p hp => ?_)
    have : bgB 0 (pcd p) = true := bgB_iff.mpr (by rw [← h.k0]; exact h.bg0 (pc_v hp))
    rw [this]
    rfl
  have hb : mX7_bestMove (nI H) (q 0) ks ws pa ca wi = some b := by
    unfold mX7_bestMove
    rw [cbest_c hK hS hT (q 0), eb]
    rfl
  unfold mL_same
  rw [e]
  simp only [Option.bind_some]
  rw [w0, Option.bind_some, if_pos rfl, w1, Option.bind_some, if_pos rfl, w3, Option.bind_some, l_cost hL hT, Option.bind_some, if_pos rfl, w7, Option.bind_some, if_pos rfl, w8, Option.bind_some, if_pos rfl, w9, Option.bind_some, if_pos rfl, w10, Option.bind_some, if_pos rfl, hw, Option.bind_some, if_pos rfl, hb, Option.bind_some, if_pos rfl]
end Same
