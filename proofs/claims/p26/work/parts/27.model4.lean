theorem ftNx_0 {a z : Int32} {pu : Nat} (h : a = 0) : ftNx a z pu = 0 := if_pos h
theorem ftNz_0 {a z : Int32} {pu : Nat} (h : a = 0) : ftNz a z pu = z := if_pos h
theorem ftNz_p {a z : Int32} {pu : Nat} (h : ¬ a = 0) : ftNz a z pu = (ftDraw a z pu).1 := if_neg h
theorem ftNx_p {a z : Int32} {pu : Nat} (h : ¬ a = 0) (hp : 0 < pu) (hp2 : pu < 2 ^ 31) : ftNx a z pu = (ftDraw a z pu).2 / nI pu := by
  unfold ftNx ftQuot
  rw [if_neg h, if_neg (nI_ne0 hp hp2)]
theorem ft_div0 (x : Int32) : (0 : Int32) / x = 0 := Int32.zero_div
theorem ft_ne0_of_pos {a : Int32} (h : 0 < a) : ¬ a = 0 := fun q => by rw [q] at h; exact absurd h (by decide)

