/-! the reference: a change -/
theorem ftPush_n {w z : Nat → Int32} {hm : Nat} (h : hm ≠ 5) : ftPush w z hm = ftSeg w z (hm * 1439) 1439 := if_neg h
theorem ftPush_5 {w z : Nat → Int32} {hm : Nat} (h : hm = 5) : ftPush w z hm = ftSeg w (ftShift z 5756) ((hm - 1) * 1439) 1439 := by
  have e : (hm - 1) * 1439 = 5756 := by omega
  rw [e]; exact if_pos h

