/-! The town whole, and the reference's other answers. -/
def Tn (H : Nat) (k : Nat → Nat) (C : Nat → Prop) (N : Nat) (n : Nat → Nat) (W : Nat → Int32) : Prop :=
  Hs H k C ∧ Ns N n W ∧ (∀ x, ¬ W x = -1 → C x) ∧ W 0 = -1 ∧ (∀ x, C x → x ≠ 0 → ∃ y, ¬ W y = -1 ∧ bgN x y) ∧
  ∀ x y l, C x → C y → l < lnN x → l < lnN y → ctN x l = ctN y l → ¬ ctN x (l + 1) = ctN y (l + 1) → C (ctN x l)
def why (L : Int32) (H : Nat) (k : Nat → Nat) (W : Nat → Int32) (i : Nat) : Int32 :=
  if i = 0 then 1 else if hm W (k i) then 2 else if ch H k i ≤ 1 then (if nI (lb k i + lb k (i + 1)) ≤ L then 0 else 4) else 3
def wbl (N : Nat) (n : Nat → Nat) (W : Nat → Int32) (x : Nat) : Int32 := sm (fun r => if bgB x (n r) then W (n r) else 0) N
def nbl (N : Nat) (n : Nat → Nat) (x : Nat) : Nat := cn (fun r => bgB x (n r)) N
def svl (L : Int32) (H : Nat) (k : Nat → Nat) (N : Nat) (n : Nat → Nat) (W : Nat → Int32) (i : Nat) : Int32 := if why L H k W i ≤ 0 then wbl N n W (k i) else -1
def knl (N : Nat) (n : Nat → Nat) (x : Nat) : Nat → Nat
  | 0 => 0
  | l + 1 => if tB N n (ctN x (l + 1)) then l + 1 else knl N n x l
def cb (H : Nat) (k : Nat → Nat) (x y : Nat) : Nat := cn (fun j => bgB (k j) x && bgB (k j) y) H
def rb (H : Nat) (k : Nat → Nat) (x y : Nat) : Nat := dp H k x + dp H k y - 2 * cb H k x y
def mxf (g : Nat → Int32) : Nat → Int32
  | 0 => 0
  | n + 1 => if g n ≤ mxf g n then mxf g n else g n
def bsf (g : Nat → Int32) : Nat → Int32 × Int32
  | 0 => (-1, -1)
  | n + 1 => (if g n ≤ (bsf g n).2 then (bsf g n).1 else nI n, if g n ≤ (bsf g n).2 then (bsf g n).2 else g n)
def nvl (H : Nat) (k : Nat → Nat) (n : Nat → Nat) (W : Nat → Int32) (r : Nat) (p : Int32) : Int32 :=
  if p = 0 then nI (n r / bsN (lnN (n r))) else if p = 1 then nI (lnN (n r)) else if p = 2 then W (n r) else nI (dp H k (n r) - 1)
def hvl (H : Nat) (k : Nat → Nat) (N : Nat) (n : Nat → Nat) (W : Nat → Int32) (i : Nat) (p : Int32) : Int32 :=
  if p = 0 then nI (k i / bsN (lnN (k i))) else if p = 1 then nI (lnN (k i)) else if p = 2 then nI (k i / bsN (lnN (k i)) % 8 ^ lb k i) else if p = 3 then nI (lb k i)
  else if p = 4 then nI (ch H k i) else if p = 5 then (if hm W (k i) then 1 else 0) else if p = 6 then nI (nbl N n (k i)) else if p = 7 then wbl N n W (k i) else nI (dp H k (k i) - 1)
def cst (H : Nat) (k : Nat → Nat) (N : Nat) (n : Nat → Nat) (W : Nat → Int32) : Int32 := sm (fun r => W (n r) * nI (dp H k (n r) - 1)) N
def trl (H : Nat) (k : Nat → Nat) (N : Nat) (n : Nat → Nat) : Int32 :=
  (if N = 0 then 0 else nI (dp H k (n 0) - 1) + nI (dp H k (n (N - 1)) - 1)) + sm (fun r => if r = 0 then 0 else nI (rb H k (n (r - 1)) (n r))) N
/-- where somebody lives below one that is no home, the next house is its child -/
theorem Tn.nx {H k C N n W} (hT : Tn H k C N n W) {i : Nat} (hi : i < H) (h0 : i ≠ 0) (hh : hm W (k i) = false) : i + 1 < H ∧ pr k (i + 1) = i := by
  obtain ⟨h, hn, hC, hW0, hD, hM⟩ := hT
  obtain ⟨y, hy, hb⟩ := hD (k i) (h.c hi) (by
    intro e
    have h1 := h.en.1 0 i (by omega) hi
    omega)
  obtain ⟨h1, h2⟩ := h.ixe (hC y hy)
  rw [← h2] at hb
  have h3 := h.ij hi h1 hb
  refine h.nxt h1 ?_ hb
  rcases Nat.lt_or_ge i (plc H k y) with h4 | h4
  · exact h4
  · have e : plc H k y = i := by omega
    rw [e] at h2
    rw [hm_f] at hh
    rw [← h2] at hy
    exact absurd hh hy
section RefR
variable {H : Nat} {k : Nat → Nat} {N : Nat} {n : Nat → Nat} {W : Nat → Int32} {C : Nat → Prop}
theorem ct_len0 (x : Nat) : lnN (ctN x 0) = 0 := ct_len (Nat.zero_le _)
end RefR
