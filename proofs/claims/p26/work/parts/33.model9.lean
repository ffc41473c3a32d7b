/-! the reference: an event comes, events -/
def ftEvK (rb en : Int32) : Int32 := if en = 0 then (if rb = 0 then 0 else 1) else 3
/-- an event more; O its makers, if it is a ghost -/
def ftEvS (v : Nat → Int32) (O : Option (Nat × Nat)) (x y : Nat) (rb en : Int32) (q : ftRs) : ftRs := (q.1 + 1, en, fun c => if c = 4 then (match O with | none => upd (q.2.2 4) q.1 (ftEvK rb en) | some _ => upd (q.2.2 4) q.1 2) else if c = 6 then ftMk1 O (q.2.2 6) q.1 else if c = 7 then ftMk2 O (q.2.2 7) q.1 else upd (q.2.2 c) q.1 (ftEvV v x y (ftSb q.2.2 q.1) rb c))
noncomputable def ftEvO (v : Nat → Int32) (tl gl : Int32) (x y : Nat) (rb en : Int32) (q : ftRs) : Option (Nat × Nat) := @ite _ (ftEvK rb en = 1 ∧ ftAbs (v (x - 1) - v y) ≤ gl) (Classical.propDecidable _) (ftMkOut (ftRoM (upd (q.2.2 0) q.1 (nI x)) (upd (q.2.2 4) q.1 (ftEvK rb en))) tl q.1 q.1) none
theorem ftEvO_f {v : Nat → Int32} {tl gl : Int32} {x y : Nat} {rb en : Int32} {q : ftRs} (h : ¬ (ftEvK rb en = 1 ∧ ftAbs (v (x - 1) - v y) ≤ gl)) : ftEvO v tl gl x y rb en q = none := if_neg h
theorem ftEvO_t {v : Nat → Int32} {tl gl : Int32} {x y : Nat} {rb en : Int32} {q : ftRs} (h : ftEvK rb en = 1) (h2 : ftAbs (v (x - 1) - v y) ≤ gl) : ftEvO v tl gl x y rb en q = ftMkOut (ftRoM (upd (q.2.2 0) q.1 (nI x)) (upd (q.2.2 4) q.1 1)) tl q.1 q.1 := (if_pos ⟨h, h2⟩).trans (by rw [h])
section FTEV
variable {v : Nat → Int32} {O : Option (Nat × Nat)} {x y n : Nat} {rb en : Int32} {ro : Nat → Nat → Int32}
theorem ftEvS_0 : (ftEvS v O x y rb en (n, 0, ro)).2.2 0 = upd (ro 0) n (nI x) := rfl
theorem ftEvS_1 : (ftEvS v O x y rb en (n, 0, ro)).2.2 1 = upd (ro 1) n (nI y) := rfl
theorem ftEvS_2 : (ftEvS v O x y rb en (n, 0, ro)).2.2 2 = upd (ro 2) n (v (x - 1) - v y) := rfl
theorem ftEvS_3 : (ftEvS v O x y rb en (n, 0, ro)).2.2 3 = upd (ro 3) n (if rb = 0 then 0 else ftGr v x (y - x) - v (x - 1)) := rfl
theorem ftEvS_4n : (ftEvS v none x y rb en (n, 0, ro)).2.2 4 = upd (ro 4) n (ftEvK rb en) := rfl
theorem ftEvS_4s {i j : Nat} : (ftEvS v (some (i, j)) x y rb en (n, 0, ro)).2.2 4 = upd (ro 4) n 2 := rfl
theorem ftEvS_5 : (ftEvS v O x y rb en (n, 0, ro)).2.2 5 = upd (ro 5) n (v (ftSb ro n) - v (x - 1)) := rfl
theorem ftEvS_6 : (ftEvS v O x y rb en (n, 0, ro)).2.2 6 = ftMk1 O (ro 6) n := rfl
theorem ftEvS_7 : (ftEvS v O x y rb en (n, 0, ro)).2.2 7 = ftMk2 O (ro 7) n := rfl
theorem ftEvK_1 : ftEvK rb 1 = 3 := if_neg (by decide)
theorem ftEvK_0t (h : rb = 0) : ftEvK rb 0 = 0 := (if_pos rfl).trans (if_pos h)
theorem ftEvK_0f (h : ¬ rb = 0) : ftEvK rb 0 = 1 := (if_pos rfl).trans (if_neg h)
end FTEV
theorem ftGr_s (v : Nat → Int32) (x d : Nat) (h : 0 < d) : ftGr v x d = ftMax (ftGr v x (d - 1)) (v (x + d)) := by
  obtain ⟨k, rfl⟩ : ∃ k, d = k + 1 := ⟨d - 1, by omega⟩
  rfl
theorem ftGr_t {v : Nat → Int32} {x d : Nat} (h : ¬ v (x + d) ≤ ftGr v x (d - 1)) : v (x + d) = ftGr v x d := by
  rcases Nat.eq_zero_or_pos d with q | q
  · subst q; rfl
  · rw [ftGr_s v x d q, ftMax, if_pos (Int32.not_le.mp h)]
theorem ftGr_f {v : Nat → Int32} {x d : Nat} (h : v (x + d) ≤ ftGr v x (d - 1)) : ftGr v x (d - 1) = ftGr v x d := by
  rcases Nat.eq_zero_or_pos d with q | q
  · subst q; rfl
  · rw [ftGr_s v x d q, ftMax, if_neg (Int32.not_lt.mpr h)]

