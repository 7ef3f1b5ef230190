/-! What the reference answers, over its state. -/
theorem lpS (L : Nat → Int32 → Int32 → Option (Int32 × Int32)) (N : Nat) (g : Nat → Int32) (i0 : Nat)
    (hs : ∀ n a i, i0 ≤ i → i < N → L (n + 1) a (nI i) = L n (a + g i) (nI (i + 1))) (he : ∀ n a, L (n + 1) a (nI N) = some (a, nI N)) (a : Int32) (n : Nat) (h : N < n) (h0 : i0 ≤ N) :
    L n (a + sm g i0) (nI i0) = some (a + sm g N, nI N) := by
  obtain ⟨t, ht, e⟩ := lpI (fun n i (s : Int32) => L n s (nI i)) N (fun i s => s = a + sm g i ∧ i0 ≤ i) (fun t => t = (a + sm g N, nI N))
    (fun n i s hi hI => ⟨s + g i, ⟨by rw [hI.1, sm_s, Int32.add_assoc], by omega⟩, hs n s i hI.2 hi⟩)
    (fun n s hI => ⟨(s, nI N), by rw [hI.1], he n s⟩) (N - i0) n i0 (a + sm g i0) (by omega) (by omega) ⟨rfl, Nat.le_refl _⟩
  rw [ht] at e
  exact e
theorem lpS0 (L : Nat → Int32 → Int32 → Option (Int32 × Int32)) (N : Nat) (g : Nat → Int32)
    (hs : ∀ n a i, i < N → L (n + 1) a (nI i) = L n (a + g i) (nI (i + 1))) (he : ∀ n a, L (n + 1) a (nI N) = some (a, nI N)) (a : Int32) (n : Nat) (h : N < n) :
    L n a 0 = some (a + sm g N, nI N) := by
  have := lpS L N g 0 (fun n a i _ hi => hs n a i hi) he a n h (Nat.zero_le _)
  rw [show a + sm g 0 = a from Int32.add_zero a] at this
  exact this
theorem lit (n : Nat) : (OfNat.ofNat n : Int32) = nI n := rfl
section RefQ
variable {H : Nat} {k : Nat → Nat} {N : Nat} {n : Nat → Nat} {W : Nat → Int32} {C : Nat → Prop}
def tB (N : Nat) (n : Nat → Nat) (x : Nat) : Bool := decide (lnN x = 0) || decide (0 < cn (fun r => bgB x (n r)) N)
end RefQ
