/-! the reference: the trace -/
def ftLv (w : Nat → Int32) (n : Nat) : Nat → Int32
  | 0 => 50000
  | x + 1 => ftLv w n x - ftFw w (nI x) n
def ftSp1 (w : Nat → Int32) (x : Int32) (k : Nat) : Int32 := if w (44 + 0) ≤ x - w (4 + 4 * k + 1) + 1 then w (4 + 4 * k + 2) else w (4 + 4 * k + 2) * (x - w (4 + 4 * k + 1) + 1) / w (44 + 0)
def ftBi (w : Nat → Int32) (x b0 : Int32) : Nat → Int32
  | 0 => b0
  | k + 1 => if w (4 + 4 * k + 0) < 2 ∧ w (4 + 4 * k + 1) ≤ x then ftBi w x b0 k - ftSp1 w x k else ftBi w x b0 k
def ftBsM (w : Nat → Int32) (ln n : Nat) (x : Nat) : Int32 := if nI x < nI ln then ftBi w (nI x) (ftLv w n x) n else 5000
def ftPkI (PP HH : Nat → Nat) (wd d x : Nat) (b0 : Int32) : Nat → Int32
  | 0 => b0
  | k + 1 => if ftPkI PP HH wd d x b0 k < nI (ftPk (PP k) (HH k) wd d x) then nI (ftPk (PP k) (HH k) wd d x) else ftPkI PP HH wd d x b0 k
def ftPkM (PP HH PG HG : Nat → Nat) (r g wd d : Nat) (x : Nat) : Int32 := ftPkI PG HG wd d x (ftPkI PP HH wd d x 0 r) g
theorem ftUpd2 (f : Nat → Int32) (k : Nat) (a b : Int32) : upd (upd f k a) k b = upd f k b := by
  funext t
  unfold upd
  by_cases q : t = k
  · rw [if_pos q, if_pos q]
  · rw [if_neg q, if_neg q, if_neg q]
theorem ftUpd1 (f : Nat → Int32) (k : Nat) (a : Int32) : upd f k a k = a := if_pos rfl
theorem ftBi_f {w : Nat → Int32} {x b0 : Int32} {k : Nat} (h : ¬ (w (4 + 4 * k + 0) < 2 ∧ w (4 + 4 * k + 1) ≤ x)) : ftBi w x b0 (k + 1) = ftBi w x b0 k := if_neg h
theorem ftBi_t {w : Nat → Int32} {x b0 s : Int32} {k : Nat} (h : w (4 + 4 * k + 0) < 2 ∧ w (4 + 4 * k + 1) ≤ x) (hs : s = ftSp1 w x k) : ftBi w x b0 (k + 1) = ftBi w x b0 k - s := by rw [hs]; exact if_pos h
theorem ftPkI_t {PP HH : Nat → Nat} {wd d x k : Nat} {b0 : Int32} (h : ftPkI PP HH wd d x b0 k < nI (ftPk (PP k) (HH k) wd d x)) : ftPkI PP HH wd d x b0 (k + 1) = nI (ftPk (PP k) (HH k) wd d x) := if_pos h
theorem ftPkI_f {PP HH : Nat → Nat} {wd d x k : Nat} {b0 : Int32} (h : ¬ ftPkI PP HH wd d x b0 k < nI (ftPk (PP k) (HH k) wd d x)) : ftPkI PP HH wd d x b0 (k + 1) = ftPkI PP HH wd d x b0 k := if_neg h

