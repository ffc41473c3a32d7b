/-! the ring of kept traces: what a new one does not touch -/
theorem ftRg_miss {ke k i : Nat} (h1 : k ≤ ke) (h2 : ke ≤ k + 4) (hi : i < min k 3) : (k - min k 3 + i) % 8 ≠ ke % 8 := by omega
theorem ftRg_seg {g f : Nat → Int32} {a b N x : Nat} (hab : a ≠ b) (hN : N ≤ 460) (hx : x < 460) : ftSeg g f (b * 460) N (a * 460 + x) = f (a * 460 + x) := by
  unfold ftSeg
  rw [if_neg]
  intro q
  rcases Nat.lt_or_gt_of_ne hab with r | r
  · have := Nat.mul_le_mul_right 460 (show a + 1 ≤ b from r)
    omega
  · have := Nat.mul_le_mul_right 460 (show b + 1 ≤ a from r)
    omega
theorem ftRg_new {g f : Nat → Int32} {b N x : Nat} (hx : x < N) : ftSeg g f (b * 460) N (b * 460 + x) = g x := by
  unfold ftSeg
  rw [if_pos ⟨by omega, by omega⟩, show b * 460 + x - b * 460 = x by omega]
