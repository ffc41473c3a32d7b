/-! the reference: changes, texts' ends, noise -/
/-- where a part at x comes among k parts of a row -/
def ftPosW (w : Nat → Int32) (x : Int32) : Nat → Nat
  | 0 => 0
  | k + 1 => if x < w (4 + 4 * k + 1) then ftPosW w x k else k + 1
theorem ftPosW_le (w : Nat → Int32) (x : Int32) (n : Nat) : ftPosW w x n ≤ n := by
  induction n with
  | zero => exact Nat.le_refl 0
  | succ n ih => unfold ftPosW; split <;> omega
theorem ftPosW_gt {w : Nat → Int32} {x : Int32} {k : Nat} (hk : 0 < k) (h : x < w (4 + 4 * (k - 1) + 1)) : ftPosW w x k = ftPosW w x (k - 1) := by
  obtain ⟨j, rfl⟩ : ∃ j, k = j + 1 := ⟨k - 1, by omega⟩
  exact if_pos h
theorem ftPosW_ge {w : Nat → Int32} {x : Int32} {k : Nat} (hk : 0 < k) (h : ¬ x < w (4 + 4 * (k - 1) + 1)) : ftPosW w x k = k := by
  obtain ⟨j, rfl⟩ : ∃ j, k = j + 1 := ⟨k - 1, by omega⟩
  exact if_neg h
/-- the parts from the k-th on, of n, a place further -/
def ftShP (w : Nat → Int32) (n k : Nat) : Nat → Int32 := fun t => if 4 + 4 * k + 4 ≤ t ∧ t < 4 + 4 * n + 4 then w (t - 4) else w t
def ftShI (w : Nat → Int32) (n k i : Nat) : Nat → Int32 := fun t => if 4 + 4 * k ≤ t ∧ t < 4 + 4 * k + i then w (t - 4) else ftShP w n k t
theorem ftShP_0 (w : Nat → Int32) (n : Nat) : w = ftShP w n n := funext fun t => (if_neg (by omega)).symm
theorem ftShI_0 (w : Nat → Int32) (n k : Nat) : ftShP w n k = ftShI w n k 0 := funext fun t => (if_neg (by omega)).symm
theorem ftShP_low {w : Nat → Int32} {n k t : Nat} (h : t < 4 + 4 * k + 4) : ftShP w n k t = w t := if_neg (by omega)
theorem ftShI_s {w : Nat → Int32} {n k i : Nat} (hk : 0 < k) (hi : i < 4) : upd (ftShI w n k i) (4 + 4 * k + i) (ftShI w n k i (4 + 4 * (k - 1) + i)) = ftShI w n k (i + 1) := by
  have e : ftShI w n k i (4 + 4 * (k - 1) + i) = w (4 + 4 * (k - 1) + i) := by
    unfold ftShI
    rw [if_neg (by omega), ftShP_low (by omega)]
  rw [e]
  funext t
  unfold upd ftShI
  by_cases q : t = 4 + 4 * k + i
  · rw [if_pos q, if_pos (by omega)]
    congr 1
    omega
  · rw [if_neg q]
    by_cases r : 4 + 4 * k ≤ t ∧ t < 4 + 4 * k + i
    · rw [if_pos r, if_pos (by omega)]
    · rw [if_neg r, if_neg (by omega)]
theorem ftShI_4 {w : Nat → Int32} {n k : Nat} (hk : 0 < k) (hkn : k ≤ n) : ftShI w n k 4 = ftShP w n (k - 1) := by
  funext t
  unfold ftShI ftShP
  by_cases q : 4 + 4 * k ≤ t ∧ t < 4 + 4 * k + 4
  · rw [if_pos q, if_pos (by omega)]
  · rw [if_neg q]
    by_cases r : 4 + 4 * k + 4 ≤ t ∧ t < 4 + 4 * n + 4
    · rw [if_pos r, if_pos (by omega)]
    · rw [if_neg r, if_neg (by omega)]
def ftAdd (w : Nat → Int32) (n : Nat) (kd x lo re : Int32) : Nat → Int32 := upd (ftComes (ftShP w n (ftPosW w x n)) (ftPosW w x n) kd x lo re) 3 (nI (n + 1))
theorem ftComes_3 {w : Nat → Int32} {n k : Nat} {kd x lo re : Int32} : ftComes (ftShP w n k) k kd x lo re 3 = w 3 := by
  unfold ftComes upd
  rw [if_neg (by omega), if_neg (by omega), if_neg (by omega), if_neg (by omega), ftShP_low (by omega)]
theorem ftUpd_ne {f : Nat → Int32} {k t : Nat} {x : Int32} (h : t ≠ k) : upd f k x t = f t := if_neg h
/-- the text behind a character typed -/
noncomputable def ftTl (tn : Nat) (x : Int32) : Nat := @ite _ ((32 ≤ x ∧ x ≤ 126) ∧ tn ≠ 120) (Classical.propDecidable _) (tn + 1) tn
noncomputable def ftTt (tx : Nat → Int32) (tn : Nat) (x : Int32) : Nat → Int32 := @ite _ ((32 ≤ x ∧ x ≤ 126) ∧ tn ≠ 120) (Classical.propDecidable _) (upd tx tn x) tx
theorem ftTl_t {tn : Nat} {x : Int32} (h : (32 ≤ x ∧ x ≤ 126) ∧ tn ≠ 120) : ftTl tn x = tn + 1 := if_pos h
theorem ftTl_f {tn : Nat} {x : Int32} (h : ¬ ((32 ≤ x ∧ x ≤ 126) ∧ tn ≠ 120)) : ftTl tn x = tn := if_neg h
theorem ftTt_t {tx : Nat → Int32} {tn : Nat} {x : Int32} (h : (32 ≤ x ∧ x ≤ 126) ∧ tn ≠ 120) : ftTt tx tn x = upd tx tn x := if_pos h
theorem ftTt_f {tx : Nat → Int32} {tn : Nat} {x : Int32} (h : ¬ ((32 ≤ x ∧ x ≤ 126) ∧ tn ≠ 120)) : ftTt tx tn x = tx := if_neg h



