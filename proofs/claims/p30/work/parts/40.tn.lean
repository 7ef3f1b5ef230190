/-! The town after a change. -/
section TnSec
variable {H : Nat} {k : Nat → Nat} {W : Nat → Int32} {C : Nat → Prop} {N : Nat} {n : Nat → Nat}
theorem ct_of_bg {x c l : Nat} (hx : VN x) (hc : VN c) (h : bgN x c) (hl : l ≤ lnN x) : ctN x l = ctN c l := by
  have h8 := hx.len
  have h1 := bg_trans (ct_VN hx.lt (by omega)) hx hc (ct_bg hx hl) h
  have h2 := ((bg_ct (ct_VN hx.lt (by omega)) hc).mp h1).2
  rw [ct_len (by omega)] at h2
  exact h2
theorem ct_ct {x i j : Nat} (hx : VN x) (hij : i ≤ j) (hj : j ≤ lnN x) : ctN (ctN x j) i = ctN x i := by
  have h8 := hx.len
  have h1 := ct_mono hx hij hj
  have h2 := ((bg_ct (ct_VN hx.lt (by omega)) (ct_VN hx.lt (by omega))).mp h1).2
  rw [ct_len (by omega)] at h2
  exact h2.symm
theorem ct_lt {x i j : Nat} (hx : VN x) (hij : i < j) (hj : j ≤ lnN x) : ctN x i < ctN x j := by
  have h8 := hx.len
  have h1 := (ct_mono hx (Nat.le_of_lt hij) hj).1
  rcases Nat.lt_or_ge (ctN x i) (ctN x j) with h2 | h2
  · exact h2
  · exfalso
    have e : ctN x i = ctN x j := by omega
    have e1 := ct_len (k := x) (l := i) (by omega)
    have e2 := ct_len (k := x) (l := j) (by omega)
    rw [e] at e1
    omega
/-- how many houses the whole town can have -/
theorem Tn.le193 {H' : Nat} {k' : Nat → Nat} {C' : Nat → Prop} (hE : En H' k' C') (hV : ∀ x, C' x → VN x) (hn : Ns N n W) (hD : ∀ x, C' x → x ≠ 0 → ∃ y, ¬ W y = -1 ∧ bgN x y) : H' ≤ 193 := by
  have h := H_le hE hV (fun r hr => hn.2.1 _ (hn.1.2.1 r hr)) (fun x hx h0 => by
    obtain ⟨y, hy, hb⟩ := hD x hx h0
    obtain ⟨r, hr, e⟩ := hn.1.2.2 y hy
    exact ⟨r, hr, by rw [e]; exact hb⟩)
  have := hn.2.2
  omega
theorem Tn.evict (hT : Tn H k C N n W) {x c : Nat} (hv : VN x) (hx : ¬ C x) (hc : C c) (hb : bgN x c) : Tn (H + 1) (insN k (plc H k x) x) (fun y => C y ∨ y = x) N n W := by
  obtain ⟨h, hn, hC, hW0, hD, hM⟩ := hT
  have vc := h.2.2.1 c hc
  have hD' : ∀ y, (C y ∨ y = x) → y ≠ 0 → ∃ z, ¬ W z = -1 ∧ bgN y z := by
    intro y hy h0
    rcases hy with hy | hy
    · exact hD y hy h0
    · subst hy
      have hc0 : c ≠ 0 := by
        intro e
        rw [e] at hb
        have := hb.1
        omega
      obtain ⟨z, hz, hb2⟩ := hD c hc hc0
      exact ⟨z, hz, bg_trans hv vc (hn.2.1 z hz) hb hb2⟩
  have hE := h.1.ins hx
  have hV : ∀ y, (C y ∨ y = x) → VN y := fun y hy => hy.elim (h.2.2.1 y) (fun e => e ▸ hv)
  refine ⟨h.ins hv hx (Tn.le193 hE hV hn hD'), hn, fun y hy => Or.inl (hC y hy), hW0, hD', ?_⟩
  intro x1 x2 l h1 h2 h3 h4 h5 h6
  rcases h1 with h1 | h1
  · rcases h2 with h2 | h2
    · exact Or.inl (hM x1 x2 l h1 h2 h3 h4 h5 h6)
    · subst h2
      have e1 := ct_of_bg hv vc hb (Nat.le_of_lt h4)
      have e2 := ct_of_bg hv vc hb (show l + 1 ≤ lnN x2 from h4)
      have := bg_len hv vc hb
      exact Or.inl (hM x1 c l h1 hc h3 (by omega) (by rw [h5, e1]) (by rw [← e2]; exact h6))
  · rcases h2 with h2 | h2
    · subst h1
      have e1 := ct_of_bg hv vc hb (Nat.le_of_lt h3)
      have e2 := ct_of_bg hv vc hb (show l + 1 ≤ lnN x1 from h3)
      have := bg_len hv vc hb
      have h7 := hM c x2 l hc h2 (by omega) h4 (by rw [← e1]; exact h5) (by rw [← e2]; exact h6)
      rw [← e1] at h7
      exact Or.inl h7
    · subst h1 h2
      exact absurd rfl h6
/-- whoever is below a house is below one of its children -/
theorem Hs.via (h : Hs H k C) {i : Nat} : ∀ j, j < H → i < j → bgN (k i) (k j) → ∃ c, c < H ∧ 0 < c ∧ pr k c = i ∧ bgN (k c) (k j) := by
  intro j
  induction j using Nat.strongRecOn with
  | ind j ih =>
    intro hj hij hb
    have hp := pr_lt k (show 0 < j by omega)
    have h1 := h.prm hj hij hb
    rcases Nat.lt_or_ge i (pr k j) with h2 | h2
    · obtain ⟨c, hc, h0, e, hb2⟩ := ih (pr k j) hp (by omega) h2 ((h.pri hj hij).mp hb)
      exact ⟨c, hc, h0, e, bg_trans (h.v hc) (h.v (by omega)) (h.v hj) hb2 (h.prb hj)⟩
    · exact ⟨j, hj, by omega, by omega, bg_rfl _⟩
theorem cn_two {p : Nat → Bool} {a b m : Nat} (hab : a < b) (hb : b < m) (h1 : p a = true) (h2 : p b = true) : 2 ≤ cn p m := by
  have e1 := cn_mono p (show b + 1 ≤ m from hb)
  have e2 := cn_s p b
  have e3 := cn_pos (m := a) hab h1
  rw [h2] at e2
  simp at e2
  omega
theorem ch_uniq {i : Nat} (hc : ch H k i ≤ 1) {a b : Nat} (ha : a < H) (hb : b < H) (a0 : 0 < a) (b0 : 0 < b) (ea : pr k a = i) (eb : pr k b = i) : a = b := by
  have pa : (decide (0 < a) && decide (pr k a = i)) = true := by rw [decide_eq_true a0, decide_eq_true ea]; rfl
  have pb : (decide (0 < b) && decide (pr k b = i)) = true := by rw [decide_eq_true b0, decide_eq_true eb]; rfl
  unfold ch at hc
  rcases Nat.lt_trichotomy a b with h | h | h
  · have := cn_two (p := fun j => decide (0 < j) && decide (pr k j = i)) h hb pa pb
    omega
  · exact h
  · have := cn_two (p := fun j => decide (0 < j) && decide (pr k j = i)) h ha pb pa
    omega
/-- a house that is no home and has no more than one child may go -/
theorem Tn.drop (hT : Tn H k C N n W) {i : Nat} (hi : i < H) (h0 : i ≠ 0) (hh : hm W (k i) = false) (hc : ch H k i ≤ 1) : Tn (H - 1) (delN k i) (fun y => C y ∧ y ≠ k i) N n W := by
  have hTT := hT
  obtain ⟨h, hn, hC, hW0, hD, hM⟩ := hT
  refine ⟨h.del hi h0, hn, fun y hy => ⟨hC y hy, fun e => ?_⟩, hW0, fun y hy => hD y hy.1, ?_⟩
  · rw [hm_f] at hh
    rw [e] at hy
    exact hy hh
  intro x1 x2 l h1 h2 h3 h4 h5 h6
  refine ⟨hM x1 x2 l h1.1 h2.1 h3 h4 h5 h6, fun e => ?_⟩
  have v1 := h.2.2.1 _ h1.1
  have v2 := h.2.2.1 _ h2.1
  have vi := h.v hi
  have l8 := v1.len
  have el : lnN (k i) = l := by
    rw [← e]
    exact ct_len (by omega)
  have b1 : bgN (k i) x1 := by
    rw [← e]
    exact ct_bg v1 (Nat.le_of_lt h3)
  have b2 : bgN (k i) x2 := by
    rw [← e, h5]
    exact ct_bg v2 (Nat.le_of_lt h4)
  obtain ⟨j1, hj1, e1⟩ := h.en.2.2 _ h1.1
  obtain ⟨j2, hj2, e2⟩ := h.en.2.2 _ h2.1
  have i1 : i < j1 := by
    rw [← e1] at b1
    have := h.ij hi hj1 b1
    have : i ≠ j1 := fun e3 => h1.2 (by rw [← e1, ← e3])
    omega
  have i2 : i < j2 := by
    rw [← e2] at b2
    have := h.ij hi hj2 b2
    have : i ≠ j2 := fun e3 => h2.2 (by rw [← e2, ← e3])
    omega
  rw [← e1] at b1
  rw [← e2] at b2
  obtain ⟨c1, hc1, c10, p1, d1⟩ := h.via j1 hj1 i1 b1
  obtain ⟨c2, hc2, c20, p2, d2⟩ := h.via j2 hj2 i2 b2
  have ec := ch_uniq hc hc1 hc2 c10 c20 p1 p2
  subst ec
  rw [e1] at d1
  rw [e2] at d2
  have lc := h.lbp hc1 c10
  rw [p1, el] at lc
  apply h6
  rw [← ct_of_bg (h.v hc1) v1 d1 (show l + 1 ≤ lnN (k c1) from lc), ct_of_bg (h.v hc1) v2 d2 (show l + 1 ≤ lnN (k c1) from lc)]
theorem Tn.weigh (hT : Tn H k C N n W) {x : Nat} (hx : ¬ W x = -1) {w : Int32} (hw : ¬ w = -1) : Tn H k C N n (fun y => if y = x then w else W y) := by
  obtain ⟨h, hn, hC, hW0, hD, hM⟩ := hT
  have e : ∀ y, (¬ (if y = x then w else W y) = -1) ↔ ¬ W y = -1 := by
    intro y
    by_cases h1 : y = x
    · rw [if_pos h1, h1]
      exact ⟨fun _ => hx, fun _ => hw⟩
    · rw [if_neg h1]
  refine ⟨h, ⟨hn.1.congr (fun y => (e y).symm), fun y hy => hn.2.1 y ((e y).mp hy), hn.2.2⟩, fun y hy => hC y ((e y).mp hy), ?_, fun y hy h0 => ?_, hM⟩
  · show (if 0 = x then w else W 0) = -1
    rw [if_neg (fun e2 => hx (by rw [← e2]; exact hW0))]
    exact hW0
  · obtain ⟨z, hz, hb⟩ := hD y hy h0
    exact ⟨z, (e z).mpr hz, hb⟩
theorem knl_le (x : Nat) : ∀ l, knl N n x l ≤ l
  | 0 => Nat.le_refl _
  | l + 1 => by
    have := knl_le x l
    unfold knl
    split <;> omega
theorem knl_tb (x : Nat) : ∀ l, tB N n (ctN x (knl N n x l)) = true
  | 0 => by
    show tB N n (ctN x 0) = true
    unfold tB
    rw [ct_len0]
    rfl
  | l + 1 => by
    unfold knl
    split
    · rename_i h; exact h
    · exact knl_tb x l
theorem knl_max {x : Nat} : ∀ l j, knl N n x l < j → j ≤ l → ¬ tB N n (ctN x j) = true
  | 0, j, h, h2 => by
    have : knl N n x 0 = 0 := rfl
    omega
  | l + 1, j, h, h2 => by
    unfold knl at h
    split at h
    · omega
    · rename_i h3
      rcases Nat.lt_or_ge l j with h4 | h4
      · have : j = l + 1 := by omega
        subst this; exact h3
      · exact knl_max l j h h4
/-- houses of a name that comes: those that were, and the beginnings of the name from the known one on -/
def addC (C : Nat → Prop) (x kl l : Nat) (y : Nat) : Prop := C y ∨ ∃ j, kl ≤ j ∧ j ≤ l ∧ y = ctN x j
theorem Tn.add (hT : Tn H k C N n W) {x : Nat} (hv : VN x) (h1 : 0 < lnN x) (hx : W x = -1) {w : Int32} (hw : ¬ w = -1) (hN : N < 24) {H' : Nat} {k' : Nat → Nat}
    (hE : En H' k' (addC C x (knl N n x (lnN x)) (lnN x))) : Tn H' k' (addC C x (knl N n x (lnN x)) (lnN x)) (N + 1) (insN n (plc N n x) x) (fun y => if y = x then w else W y) := by
  have hTT := hT
  obtain ⟨h, hn, hC, hW0, hD, hM⟩ := hT
  have kle := knl_le (N := N) (n := n) x (lnN x)
  have ktb := (hTT.tb (ct_VN (k := x) (l := knl N n x (lnN x)) hv.lt (by have := hv.len; omega))).mp (knl_tb x _)
  have kmx := knl_max (N := N) (n := n) (x := x) (lnN x)
  have h8 := hv.len
  generalize knl N n x (lnN x) = kl at *
  have x0 : x ≠ 0 := by
    intro e
    rw [e, ln_0] at h1
    omega
  have eW : ∀ y, (¬ (if y = x then w else W y) = -1) ↔ (¬ W y = -1 ∨ y = x) := by
    intro y
    by_cases h2 : y = x
    · rw [if_pos h2]
      exact ⟨fun _ => Or.inr h2, fun _ => hw⟩
    · rw [if_neg h2]
      exact ⟨Or.inl, fun h3 => h3.elim id (fun h4 => absurd h4 h2)⟩
  have hV : ∀ y, addC C x kl (lnN x) y → VN y := by
    intro y hy
    rcases hy with hy | ⟨j, hj1, hj2, e⟩
    · exact h.2.2.1 y hy
    · rw [e]
      exact ct_VN hv.lt (by omega)
  have hn' : Ns (N + 1) (insN n (plc N n x) x) (fun y => if y = x then w else W y) := by
    refine ⟨(hn.1.ins (fun h2 => h2 hx)).congr (fun y => (eW y).symm), fun y hy => ?_, by omega⟩
    rcases (eW y).mp hy with h2 | h2
    · exact hn.2.1 y h2
    · rw [h2]; exact hv
  have hD' : ∀ y, addC C x kl (lnN x) y → y ≠ 0 → ∃ z, ¬ (if z = x then w else W z) = -1 ∧ bgN y z := by
    intro y hy h0
    rcases hy with hy | ⟨j, hj1, hj2, e⟩
    · obtain ⟨z, hz, hb⟩ := hD y hy h0
      exact ⟨z, (eW z).mpr (Or.inl hz), hb⟩
    · refine ⟨x, (eW x).mpr (Or.inr rfl), ?_⟩
      rw [e]
      exact ct_bg hv hj2
  -- a house that shares the name's first letters shares no more than the known ones
  have hkn : ∀ y l, C y → l ≤ lnN x → l ≤ lnN y → ctN x l = ctN y l → l ≤ kl := by
    intro y l hy hl1 hl2 e
    rcases Nat.lt_or_ge kl l with h2 | h2
    · exfalso
      apply kmx l h2 hl1
      rw [hTT.tb (ct_VN hv.lt (by omega))]
      obtain ⟨j, hj, e2⟩ := h.en.2.2 y hy
      refine ⟨j, hj, ?_⟩
      rw [e, e2]
      exact ct_bg (h.2.2.1 y hy) hl2
    · exact h2
  have hmix : ∀ l1 y l, kl ≤ l1 → l1 ≤ lnN x → C y → l < l1 → l < lnN y → ctN x l = ctN y l → ¬ ctN x (l + 1) = ctN y (l + 1) → addC C x kl (lnN x) (ctN x l) := by
    intro l1 y l a1 a2 a3 a4 a5 a6 a7
    have h2 := hkn y l a3 (by omega) (by omega) a6
    rcases Nat.lt_or_ge l kl with h3 | h3
    · obtain ⟨j, hj, hb⟩ := ktb
      have vk := ct_VN (k := x) (l := kl) hv.lt (by omega)
      have e1 : ctN (k j) l = ctN x l := by
        rw [← ct_of_bg vk (h.v hj) hb (show l ≤ lnN (ctN x kl) by rw [ct_len (by omega)]; omega), ct_ct hv (by omega) (by omega)]
      have e2 : ctN (k j) (l + 1) = ctN x (l + 1) := by
        rw [← ct_of_bg vk (h.v hj) hb (show l + 1 ≤ lnN (ctN x kl) by rw [ct_len (by omega)]; omega), ct_ct hv (by omega) (by omega)]
      have e3 := bg_len vk (h.v hj) hb
      rw [ct_len (by omega)] at e3
      have := hM (k j) y l (h.c hj) a3 (by omega) a5 (by rw [e1]; exact a6) (by rw [e2]; exact a7)
      rw [e1] at this
      exact Or.inl this
    · exact Or.inr ⟨l, by omega, by omega, rfl⟩
  refine ⟨⟨hE, Or.inl h.2.1, hV, Tn.le193 hE hV hn' hD'⟩, hn', fun y hy => ?_, ?_, hD', ?_⟩
  · rcases (eW y).mp hy with h2 | h2
    · exact Or.inl (hC y h2)
    · refine Or.inr ⟨lnN x, kle, Nat.le_refl _, ?_⟩
      rw [ct_self hv]
      exact h2
  · show (if 0 = x then w else W 0) = -1
    rw [if_neg (fun e => x0 e.symm)]
    exact hW0
  · intro x1 x2 l a1 a2 a3 a4 a5 a6
    rcases a1 with a1 | ⟨j1, b1, c1, e1⟩
    · rcases a2 with a2 | ⟨j2, b2, c2, e2⟩
      · exact Or.inl (hM x1 x2 l a1 a2 a3 a4 a5 a6)
      · subst e2
        rw [ct_len (by omega)] at a4
        rw [ct_ct hv (by omega) c2] at a5 a6
        rw [a5]
        exact hmix j2 x1 l b2 c2 a1 a4 a3 a5.symm (fun e => a6 e.symm)
    · subst e1
      rw [ct_len (by omega)] at a3
      rw [ct_ct hv (by omega) c1] at a5 a6 ⊢
      rcases a2 with a2 | ⟨j2, b2, c2, e2⟩
      · exact hmix j1 x2 l b1 c1 a2 a3 a4 a5 a6
      · subst e2
        rw [ct_len (by omega)] at a4
        rw [ct_ct hv (by omega) c2] at a6
        exact absurd rfl a6
/-- a town while houses are torn down, from a house on -/
def Tm (H : Nat) (k : Nat → Nat) (C : Nat → Prop) (N : Nat) (n : Nat → Nat) (W : Nat → Int32) (i : Nat) : Prop :=
  Hs H k C ∧ Ns N n W ∧ (∀ x, ¬ W x = -1 → C x) ∧ W 0 = -1 ∧ i < H ∧ (∀ x, C x → x ≠ 0 → (∃ y, ¬ W y = -1 ∧ bgN x y) ∨ bgN x (k i)) ∧
  ∀ x y l, C x → C y → l < lnN x → l < lnN y → ctN x l = ctN y l → ¬ ctN x (l + 1) = ctN y (l + 1) → C (ctN x l)
theorem Tm.start (hT : Tn H k C N n W) {x : Nat} (hx : ¬ W x = -1) : Tm H k C (N - 1) (delN n (plc N n x)) (fun y => if y = x then -1 else W y) (plc H k x) := by
  obtain ⟨h, hn, hC, hW0, hD, hM⟩ := hT
  obtain ⟨p1, p2⟩ := h.ixe (hC x hx)
  have eW : ∀ y, (¬ (if y = x then -1 else W y) = -1) ↔ (¬ W y = -1 ∧ y ≠ x) := by
    intro y
    by_cases h2 : y = x
    · rw [if_pos h2]
      exact ⟨fun h3 => absurd rfl h3, fun h3 => absurd h2 h3.2⟩
    · rw [if_neg h2]
      exact ⟨fun h3 => ⟨h3, h2⟩, fun h3 => h3.1⟩
  obtain ⟨r, hr, er⟩ := hn.1.2.2 x hx
  have e1 := hn.1.idx hr
  rw [er] at e1
  rw [e1]
  refine ⟨h, ⟨(hn.1.del hr).congr (fun y => by rw [er]; exact (eW y).symm), fun y hy => hn.2.1 y ((eW y).mp hy).1, by have := hn.2.2; omega⟩, fun y hy => hC y ((eW y).mp hy).1, ?_, p1, fun y hy h0 => ?_, hM⟩
  · show (if 0 = x then -1 else W 0) = -1
    split
    · rfl
    · exact hW0
  · rw [p2]
    obtain ⟨z, hz, hb⟩ := hD y hy h0
    by_cases h2 : z = x
    · right; rw [← h2]; exact hb
    · exact Or.inl ⟨z, (eW z).mpr ⟨hz, h2⟩, hb⟩
theorem Tm.step {i : Nat} (hT : Tm H k C N n W i) (h0 : i ≠ 0) (hh : hm W (k i) = false) (hc : ch H k i = 0) : Tm (H - 1) (delN k i) (fun y => C y ∧ y ≠ k i) N n W (pr k i) := by
  obtain ⟨h, hn, hC, hW0, hi, hD, hM⟩ := hT
  have hp := pr_lt k (show 0 < i by omega)
  have leaf : ∀ j, j < H → i < j → ¬ bgN (k i) (k j) := by
    intro j hj hij hb
    obtain ⟨h1, h2⟩ := h.nxt hj hij hb
    have : 0 < ch H k i := cn_pos (m := i + 1) h1 (by rw [decide_eq_true (show 0 < i + 1 by omega), decide_eq_true h2]; rfl)
    omega
  refine ⟨h.del hi h0, hn, fun y hy => ⟨hC y hy, fun e => ?_⟩, hW0, by omega, fun y hy hy0 => ?_, ?_⟩
  · rw [hm_f] at hh
    rw [e] at hy
    exact hy hh
  · have e : delN k i (pr k i) = k (pr k i) := by
      unfold delN
      rw [if_pos hp]
    rw [e]
    rcases hD y hy.1 hy0 with h1 | h1
    · exact Or.inl h1
    · right
      obtain ⟨j, hj, ej⟩ := h.en.2.2 y hy.1
      rw [← ej] at h1 ⊢
      have h2 := h.ij hj hi h1
      have h3 : j ≠ i := fun e2 => hy.2 (by rw [← ej, e2])
      exact (h.pri hi (by omega)).mp h1
  intro x1 x2 l h1 h2 h3 h4 h5 h6
  refine ⟨hM x1 x2 l h1.1 h2.1 h3 h4 h5 h6, fun e => ?_⟩
  have v1 := h.2.2.1 _ h1.1
  have b1 : bgN (k i) x1 := by
    rw [← e]
    exact ct_bg v1 (Nat.le_of_lt h3)
  obtain ⟨j1, hj1, e1⟩ := h.en.2.2 _ h1.1
  rw [← e1] at b1
  have := h.ij hi hj1 b1
  have : i ≠ j1 := fun e3 => h1.2 (by rw [← e1, ← e3])
  exact leaf j1 hj1 (by omega) b1
theorem Tm.stop {i : Nat} (hT : Tm H k C N n W i) (hs : i = 0 ∨ hm W (k i) = true ∨ ch H k i ≠ 0) : Tn H k C N n W := by
  obtain ⟨h, hn, hC, hW0, hi, hD, hM⟩ := hT
  refine ⟨h, hn, hC, hW0, fun y hy h0 => ?_, hM⟩
  rcases hD y hy h0 with h1 | h1
  · exact h1
  · rcases hs with hs | hs | hs
    · exfalso
      rw [hs, h.k0] at h1
      have := h1.1
      omega
    · exact ⟨_, hm_iff.mp hs, h1⟩
    · obtain ⟨c, hc, hp⟩ := cn_ex (p := fun j => decide (0 < j) && decide (pr k j = i)) (n := H) (by unfold ch at hs; omega)
      rw [Bool.and_eq_true, decide_eq_true_iff, decide_eq_true_iff] at hp
      have b := h.prb hc
      rw [hp.2] at b
      have hlt := pr_lt k hp.1
      rw [hp.2] at hlt
      have hkk := h.en.1 i c hlt hc
      rcases hD (k c) (h.c hc) (by omega) with h2 | h2
      · obtain ⟨z, hz, hb⟩ := h2
        exact ⟨z, hz, bg_trans (h.2.2.1 y hy) (h.v hi) (hn.2.1 z hz) h1 (bg_trans (h.v hi) (h.v hc) (hn.2.1 z hz) b hb)⟩
      · have := h.ij hc hi h2
        omega
/-! Parents and children after one house has gone. -/
def dl (i m : Nat) : Nat := if m < i then m else m + 1
theorem delN_dl (k : Nat → Nat) (i m : Nat) : delN k i m = k (dl i m) := by
  unfold delN dl
  split <;> rfl
theorem cn_del (p : Nat → Bool) {i H : Nat} (hi : i < H) : cn p H = cn (fun m => p (dl i m)) (H - 1) + (if p i then 1 else 0) := by
  obtain ⟨d, rfl⟩ : ∃ d, H = (i + 1) + d := ⟨H - (i + 1), by omega⟩
  rw [show i + 1 + d - 1 = i + d by omega, cn_add p (i + 1) d, cn_s, cn_add (fun m => p (dl i m)) i d]
  rw [cn_congr (p := fun m => p (dl i m)) (q := p) (n := i) (fun m hm => by unfold dl; rw [if_pos hm])]
  rw [cn_congr (p := fun m => p (dl i (i + m))) (q := fun m => p (i + 1 + m)) (n := d) (fun m hm => by unfold dl; rw [if_neg (by omega), show i + m + 1 = i + 1 + m by omega])]
  omega
theorem pr_del (h : Hs H k C) {i : Nat} (hi : i < H) (h0 : i ≠ 0) {m : Nat} (hm : m < H - 1) (m0 : 0 < m) : dl i (pr (delN k i) m) = if pr k (dl i m) = i then pr k i else pr k (dl i m) := by
  have h' := h.del hi h0
  have hdm : dl i m < H := by unfold dl; split <;> omega
  have hd0 : 0 < dl i m := by unfold dl; split <;> omega
  have hpi := pr_lt k (show 0 < i by omega)
  have hpd := pr_lt k hd0
  have mono : ∀ a b, a < b → dl i a < dl i b := by
    intro a b hab
    unfold dl
    split <;> split <;> omega
  have ne : ∀ a, dl i a ≠ i := by
    intro a
    unfold dl
    split <;> omega
  -- the new place of an old one
  have back : ∀ q, q ≠ i → dl i (if q < i then q else q - 1) = q := by
    intro q hq
    by_cases h : q < i
    · rw [if_pos h]
      unfold dl
      rw [if_pos h]
    · rw [if_neg h]
      unfold dl
      rw [if_neg (by omega)]
      omega
  have key : ∀ q, q ≠ i → q < dl i m → bgN (k q) (k (dl i m)) → (∀ z, q < z → z < dl i m → z ≠ i → ¬ bgN (k z) (k (dl i m))) → dl i (pr (delN k i) m) = q := by
    intro q hq hlt hb hz
    have hbk := back q hq
    have hjm : (if q < i then q else q - 1) < m := by
      unfold dl at hlt
      split <;> split at hlt <;> omega
    have e := h'.pru hm hjm (by rw [delN_dl, delN_dl, hbk]; exact hb) (fun z h1 h2 => by
      rw [delN_dl, delN_dl]
      exact hz _ (by have := mono _ _ h1; rw [hbk] at this; exact this) (mono _ _ h2) (ne z))
    rw [e, hbk]
  by_cases h1 : pr k (dl i m) = i
  · rw [if_pos h1]
    have hb := h.prb hdm
    rw [h1] at hb
    refine key _ (by omega) (by omega) (bg_trans (h.v (by omega)) (h.v hi) (h.v hdm) (h.prb hi) hb) (fun z hz1 hz2 hz3 hzb => ?_)
    have h2 := h.prm hdm hz2 hzb
    rw [h1] at h2
    have h3 := h.prm hi (show z < i by omega) (by
      have := (h.pri hdm hz2).mp hzb
      rw [h1] at this
      exact this)
    omega
  · rw [if_neg h1]
    refine key _ h1 hpd (h.prb hdm) (fun z hz1 hz2 hz3 hzb => ?_)
    have := h.prm hdm hz2 hzb
    omega
/-- below the place nothing changes -/
theorem pr_below (k : Nat → Nat) (i : Nat) {m : Nat} (hm : m < i) : pr (delN k i) m = pr k m := by
  have e : ∀ a j, j < i → prS (delN k i) a j = prS k a j := by
    intro a j
    induction j with
    | zero => intro _; rfl
    | succ j ih =>
      intro hj
      unfold prS
      rw [ih (by omega)]
      have : delN k i (j + 1) = k (j + 1) := if_pos hj
      rw [this]
  unfold pr
  have : delN k i m = k m := if_pos hm
  rw [this, e _ _ (by omega)]
theorem ch_del0 (h : Hs H k C) {i : Nat} (hi : i < H) (h0 : i ≠ 0) (hc : ch H k i = 0) {j : Nat} (hj : j < i) : ch H k j = ch (H - 1) (delN k i) j + (if pr k i = j then 1 else 0) := by
  have none : ∀ m, m < H → 0 < m → pr k m ≠ i := by
    intro m hm m0 e
    have : 0 < ch H k i := cn_pos (m := m) hm (by rw [decide_eq_true m0, decide_eq_true e]; rfl)
    omega
  unfold ch
  rw [cn_del _ hi, decide_eq_true (show 0 < i by omega), Bool.true_and]
  have e : cn (fun m => decide (0 < dl i m) && decide (pr k (dl i m) = j)) (H - 1) = cn (fun m => decide (0 < m) && decide (pr (delN k i) m = j)) (H - 1) := by
    refine cn_congr (fun m hm => ?_)
    rcases Nat.eq_zero_or_pos m with m0 | m0
    · subst m0
      have : dl i 0 = 0 := by unfold dl; rw [if_pos (by omega)]
      rw [this]
      rfl
    · have hd : 0 < dl i m := by unfold dl; split <;> omega
      have hdm : dl i m < H := by unfold dl; split <;> omega
      have e1 := pr_del h hi h0 hm m0
      rw [if_neg (none _ hdm hd)] at e1
      rw [decide_eq_true hd, decide_eq_true m0, Bool.true_and, Bool.true_and, ← e1]
      rw [Bool.eq_iff_iff, decide_eq_true_iff, decide_eq_true_iff]
      unfold dl
      split <;> omega
  rw [e]
  simp only [decide_eq_true_eq]
theorem ch_del1 (h : Hs H k C) {i : Nat} (hi : i < H) (h0 : i ≠ 0) (hc : ch H k i = 1) {j : Nat} (hj : j < H - 1) : ch (H - 1) (delN k i) j = ch H k (dl i j) := by
  obtain ⟨c, hcH, hcp⟩ := cn_ex (p := fun j => decide (0 < j) && decide (pr k j = i)) (n := H) (by unfold ch at hc; omega)
  rw [Bool.and_eq_true, decide_eq_true_iff, decide_eq_true_iff] at hcp
  have uq : ∀ m, m < H → 0 < m → pr k m = i → m = c := fun m hm m0 e => ch_uniq (by omega) hm hcH m0 hcp.1 e hcp.2
  have hlt := pr_lt k hcp.1
  rw [hcp.2] at hlt
  have hpi := pr_lt k (show 0 < i by omega)
  have dne : ∀ a, dl i a ≠ i := by
    intro a
    unfold dl
    split <;> omega
  have dinj : ∀ a b, dl i a = dl i b ↔ a = b := by
    intro a b
    unfold dl
    split <;> split <;> omega
  have ei : ch H k (dl i j) = cn (fun m => decide (0 < dl i m) && decide (pr k (dl i m) = dl i j)) (H - 1) + (if pr k i = dl i j then 1 else 0) := by
    unfold ch
    rw [cn_del _ hi, decide_eq_true (show 0 < i by omega), Bool.true_and]
    simp only [decide_eq_true_eq]
  rw [ei]
  have hcd : dl i (c - 1) = c := by unfold dl; rw [if_neg (by omega)]; omega
  have e2 : (if pr k i = dl i j then 1 else 0) = cn (fun m => decide (m = c - 1) && decide (pr k i = dl i j)) (H - 1) := by
    by_cases h1 : pr k i = dl i j
    · rw [if_pos h1]
      refine (cn_one (m := c - 1) (by omega) (by simp [h1]) (fun m hm hne => by simp [hne])).symm
    · rw [if_neg h1]
      refine (cn_false (fun m hm => by simp [h1])).symm
  rw [e2]
  refine cn_or (fun m hm => ?_) (fun m hm hb => ?_)
  · rcases Nat.eq_zero_or_pos m with m0 | m0
    · subst m0
      have : dl i 0 = 0 := by unfold dl; rw [if_pos (by omega)]
      rw [this, decide_eq_false (show ¬ 0 = c - 1 by omega)]
      rfl
    · have hd : 0 < dl i m := by unfold dl; split <;> omega
      have hdm : dl i m < H := by unfold dl; split <;> omega
      have e1 := pr_del h hi h0 hm m0
      rw [decide_eq_true hd, decide_eq_true m0, Bool.true_and, Bool.true_and]
      rw [Bool.eq_iff_iff, Bool.or_eq_true, Bool.and_eq_true, decide_eq_true_iff, decide_eq_true_iff, decide_eq_true_iff, decide_eq_true_iff, ← dinj, e1]
      by_cases h1 : pr k (dl i m) = i
      · have h2 := uq _ hdm hd h1
        have h3 : m = c - 1 := (dinj _ _).mp (by rw [hcd]; exact h2)
        rw [if_pos h1, h1]
        constructor
        · intro h4; exact Or.inr ⟨h3, h4⟩
        · intro h4
          rcases h4 with h4 | h4
          · exact absurd h4.symm (dne j)
          · exact h4.2
      · rw [if_neg h1]
        constructor
        · intro h4; exact Or.inl h4
        · intro h4
          rcases h4 with h4 | h4
          · exact h4
          · exfalso
            apply h1
            rw [h4.1, hcd]
            exact hcp.2
  · rw [Bool.and_eq_true, decide_eq_true_iff, decide_eq_true_iff] at hb
    by_cases h1 : m = c - 1
    · exfalso
      rw [h1, hcd] at hb
      rw [hcp.2] at hb
      exact dne j hb.2.symm
    · rw [decide_eq_false h1]
      rfl
end TnSec
