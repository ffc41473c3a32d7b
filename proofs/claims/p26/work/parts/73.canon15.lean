/-! slots of the history: where the m-th oldest state lies -/
def ftSl (nx hm m : Nat) : Nat := (nx + 5 - hm + m) % 5
theorem ftSl_lt (nx hm m : Nat) : ftSl nx hm m < 5 := Nat.mod_lt _ (by omega)
theorem ftSl_old {nx hm m : Nat} (hn : nx < 5) (h5 : hm < 5) (hm2 : m < hm) : ftSl ((nx + 1) % 5) (hm + 1) m = ftSl nx hm m ∧ ftSl nx hm m ≠ nx := by
  unfold ftSl; omega
theorem ftSl_new {nx hm : Nat} (hn : nx < 5) (h5 : hm < 5) : ftSl ((nx + 1) % 5) (hm + 1) hm = nx := by
  unfold ftSl; omega
theorem ftSl5_old {nx m : Nat} (hn : nx < 5) (hm2 : m < 4) : ftSl ((nx + 1) % 5) 5 m = ftSl nx 5 (m + 1) ∧ ftSl nx 5 (m + 1) ≠ nx := by
  unfold ftSl; omega
theorem ftSl5_new {nx : Nat} (hn : nx < 5) : ftSl ((nx + 1) % 5) 5 4 = nx := by
  unfold ftSl; omega
theorem ftSl_undo {nx hm m : Nat} (hn : nx < 5) (h5 : hm ≤ 5) (h0 : 0 < hm) (hm2 : m < hm - 1) : ftSl ((nx + 4) % 5) (hm - 1) m = ftSl nx hm m := by
  unfold ftSl; omega
theorem ftSl_last {nx hm : Nat} (hn : nx < 5) (h5 : hm ≤ 5) (h0 : 0 < hm) : ftSl nx hm (hm - 1) = (nx + 4) % 5 := by
  unfold ftSl; omega
