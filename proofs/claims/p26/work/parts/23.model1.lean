/-! the reference: leaves -/
theorem ft_in64 {x lo hi : Int32} {L H : Int64} (hL : L.toInt = lo.toInt) (hH : H.toInt = hi.toInt) : ftB (L ≤ x.toInt64 ∧ x.toInt64 ≤ H) = ftB (lo ≤ x ∧ x ≤ hi) := by
  refine ftB_congr ?_
  rw [Int64.le_iff_toInt_le, Int64.le_iff_toInt_le, Int32.le_iff_toInt_le, Int32.le_iff_toInt_le, hL, hH, Int32.toInt_toInt64]
def ftFirst (x : Int32) : Int32 := if x = 0 then 5 else if x = 1 then 1500 else if x = 2 then 9000 else if x = 3 then 0 else if x = 4 then 4 else if x = 5 then 1 else if x = 6 then 600 else if x = 7 then 60 else if x = 8 then 8000 else if x = 9 then 3 else 150
def ftLeast (x : Int32) : Int32 := if x = 0 ∨ x = 4 then 1 else if x = 1 then 100 else if x = 6 then 10 else if x = 7 then 5 else 0
def ftMost (x : Int32) : Int32 := if x = 0 then 20 else if x = 1 then 5000 else if x = 2 then 40000 else if x = 3 then 400 else if x = 4 then 32 else if x = 5 then 65535 else if x = 6 then 5000 else if x = 7 then 2000 else if x = 8 then 40000 else if x = 9 then 20 else 2000
def ftSz (x : Int32) : Int32 := if x < 0 then -x else x
theorem ftSz_abs (x : Int32) : ftSz x = ftAbs x := by
  unfold ftSz ftAbs
  by_cases h : x < 0
  · rw [if_pos h, if_neg (Int32.not_le.mpr h), Int32.zero_sub]
  · rw [if_neg h, if_pos (Int32.not_lt.mp h)]
/-- the attenuation that the first k parts of a row make hold at a place -/
def ftFw (w : Nat → Int32) (x : Int32) : Nat → Int32
  | 0 => w 1
  | k + 1 => if w (4 + 4 * k + 0) = 2 ∧ w (4 + 4 * k + 1) ≤ x then w (4 + 4 * k + 2) else ftFw w x k
theorem ftFw_t {w : Nat → Int32} {x : Int32} {k : Nat} (h1 : w (4 + 4 * k + 0) = 2) (h2 : w (4 + 4 * k + 1) ≤ x) : w (4 + 4 * k + 2) = ftFw w x (k + 1) := (if_pos ⟨h1, h2⟩).symm
theorem ftFw_1 {w : Nat → Int32} {x y : Int32} {k : Nat} (e : y = ftFw w x k) (h1 : ¬ w (4 + 4 * k + 0) = 2) : y = ftFw w x (k + 1) := by rw [e]; exact (if_neg (fun q => h1 q.1)).symm
theorem ftFw_2 {w : Nat → Int32} {x y : Int32} {k : Nat} (e : y = ftFw w x k) (h1 : x < w (4 + 4 * k + 1)) : y = ftFw w x (k + 1) := by rw [e]; exact (if_neg (fun q => absurd q.2 (Int32.not_le.mpr h1))).symm
/-- the last part at a place, or -1 -/
def ftPa (w : Nat → Int32) (x : Int32) : Nat → Int32
  | 0 => -1
  | k + 1 => if w (4 + 4 * k + 1) = x then nI k else ftPa w x k
def ftLj (w : Nat → Int32) (x : Int32) (s0 : Int32) : Nat → Int32
  | 0 => s0
  | k + 1 => ftLj w x s0 k + (if w (4 + 4 * k + 0) < 2 ∧ w (4 + 4 * k + 1) < x then w (4 + 4 * k + 2) else 0)
theorem ftLj_t {w : Nat → Int32} {x s0 y : Int32} {k : Nat} (e : y = ftLj w x s0 k) (h1 : w (4 + 4 * k + 0) < 2) (h2 : w (4 + 4 * k + 1) < x) : y + w (4 + 4 * k + 2) = ftLj w x s0 (k + 1) := by rw [e, ftLj, if_pos ⟨h1, h2⟩]
theorem ftLj_1 {w : Nat → Int32} {x s0 y : Int32} {k : Nat} (e : y = ftLj w x s0 k) (h1 : 2 ≤ w (4 + 4 * k + 0)) : y + 0 = ftLj w x s0 (k + 1) := by rw [e, ftLj, if_neg (fun q => absurd q.1 (Int32.not_lt.mpr h1))]
theorem ftLj_2 {w : Nat → Int32} {x s0 y : Int32} {k : Nat} (e : y = ftLj w x s0 k) (h1 : x ≤ w (4 + 4 * k + 1)) : y + 0 = ftLj w x s0 (k + 1) := by rw [e, ftLj, if_neg (fun q => absurd q.2 (Int32.not_lt.mpr h1))]
/-- the states behind a change: the oldest of five gone, the row laid behind -/
def ftShift (z : Nat → Int32) (J : Nat) : Nat → Int32 := fun t => if t < J then z (t + 1439) else z t
theorem ftShift_0 (z : Nat → Int32) : z = ftShift z 0 := funext fun t => (if_neg (Nat.not_lt_zero t)).symm
theorem ftShift_s {z : Nat → Int32} {J : Nat} : upd (ftShift z J) J (ftShift z J (J + 1439)) = ftShift z (J + 1) := by
  funext t
  unfold upd ftShift
  by_cases q : t = J
  · subst q; rw [if_pos rfl, if_neg (by omega), if_pos (by omega)]
  · rw [if_neg q]
    by_cases r : t < J
    · rw [if_pos r, if_pos (by omega)]
    · rw [if_neg r, if_neg (by omega)]
def ftPush (w z : Nat → Int32) (hm : Nat) : Nat → Int32 := if hm = 5 then ftSeg w (ftShift z 5756) 5756 1439 else ftSeg w z (hm * 1439) 1439
/-- a row with a part more -/
def ftComes (w : Nat → Int32) (k : Nat) (kd x lo re : Int32) : Nat → Int32 := upd (upd (upd (upd w (4 + 4 * k + 0) kd) (4 + 4 * k + 1) x) (4 + 4 * k + 2) lo) (4 + 4 * k + 3) re













