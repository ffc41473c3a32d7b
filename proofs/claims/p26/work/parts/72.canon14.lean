/-! recorded states, the newest behind -/
section FTPUSH
variable {w z : Nat → Int32} {hm : Nat}
theorem ftPush_old {m t : Nat} (h5 : hm ≠ 5) (hm2 : m < hm) (ht : t < 1439) : ftPush w z hm (m * 1439 + t) = z (m * 1439 + t) := by
  unfold ftPush ftSeg
  rw [if_neg h5, if_neg]
  intro q
  have := Nat.mul_le_mul_right 1439 (show m + 1 ≤ hm from hm2)
  omega
theorem ftPush_new {t : Nat} (h5 : hm ≠ 5) (ht : t < 1439) : ftPush w z hm (hm * 1439 + t) = w t := by
  unfold ftPush ftSeg
  rw [if_neg h5, if_pos ⟨by omega, by omega⟩, show hm * 1439 + t - hm * 1439 = t by omega]
theorem ftPush5_old {m t : Nat} (hm2 : m < 4) (ht : t < 1439) : ftPush w z 5 (m * 1439 + t) = z ((m + 1) * 1439 + t) := by
  unfold ftPush ftSeg ftShift
  rw [if_pos rfl, if_neg (by omega), if_pos (by omega), show m * 1439 + t + 1439 = (m + 1) * 1439 + t by omega]
theorem ftPush5_new {t : Nat} (ht : t < 1439) : ftPush w z 5 (4 * 1439 + t) = w t := by
  unfold ftPush ftSeg
  rw [if_pos rfl, if_pos ⟨by omega, by omega⟩, show 4 * 1439 + t - 5756 = t by omega]
end FTPUSH
