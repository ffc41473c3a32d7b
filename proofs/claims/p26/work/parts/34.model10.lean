/-! the reference: reading -/
noncomputable def ftEvQ (v : Nat → Int32) (tl gl : Int32) (x y : Nat) (rb en : Int32) (q : ftRs) : ftRs := ftEvS v (ftEvO v tl gl x y rb en q) x y rb en q
theorem ftEvQ_1 (v : Nat → Int32) (tl gl : Int32) (x y : Nat) (rb en : Int32) (q : ftRs) : (ftEvQ v tl gl x y rb en q).1 = q.1 + 1 := rfl
noncomputable def ftRdM (v : Nat → Int32) (N w : Nat) (ri st fl tl gl : Int32) : Nat → Nat → ftRs → ftRs
  | 0, _, q => q
  | f + 1, x, q => if x < N ∧ q.1 < 30 ∧ q.2.1 = 0 then
      (if ri ≤ v x - v (x - 1) then ftRdM v N w ri st fl tl gl f (ftEnd v st (N - 1) (x + w - 1) + 1) (ftEvQ v tl gl x (ftEnd v st (N - 1) (x + w - 1)) 1 (if v (ftEnd v st (N - 1) (x + w - 1)) < fl then 1 else 0) q)
       else if st < -(v x - v (x - 1)) then ftRdM v N w ri st fl tl gl f (ftEnd v st (N - 1) x + 1) (ftEvQ v tl gl x (ftEnd v st (N - 1) x) 0 (if v (ftEnd v st (N - 1) x) < fl then 1 else 0) q)
       else ftRdM v N w ri st fl tl gl f (x + 1) q) else q
theorem ftRdM_fuel {v : Nat → Int32} {N w : Nat} {ri st fl tl gl : Int32} (hw : 1 ≤ w) : ∀ (f g x : Nat) (q : ftRs), N - x < f → N - x < g → ftRdM v N w ri st fl tl gl f x q = ftRdM v N w ri st fl tl gl g x q := by
  intro f
  induction f with
  | zero => intro g x q h; omega
  | succ f ih =>
    intro g x q hf hg
    obtain ⟨g, rfl⟩ : ∃ k, g = k + 1 := ⟨g - 1, by omega⟩
    unfold ftRdM
    by_cases c : x < N ∧ q.1 < 30 ∧ q.2.1 = 0
    · rw [if_pos c, if_pos c]
      have e1 := ftEnd_geX (v := v) (st := st) (L := N - 1) (x := x) (y := x + w - 1) (by omega) (by omega)
      have e2 := ftEnd_geX (v := v) (st := st) (L := N - 1) (x := x) (y := x) (by omega) (by omega)
      by_cases d : ri ≤ v x - v (x - 1)
      · rw [if_pos d, if_pos d]; exact ih g _ _ (by omega) (by omega)
      · rw [if_neg d, if_neg d]
        by_cases k : st < -(v x - v (x - 1))
        · rw [if_pos k, if_pos k]; exact ih g _ _ (by omega) (by omega)
        · rw [if_neg k, if_neg k]; exact ih g _ _ (by omega) (by omega)
    · rw [if_neg c, if_neg c]
theorem ftRdM_r {v : Nat → Int32} {N w x : Nat} {ri st fl tl gl : Int32} {q : ftRs} {en : Int32} (hw : 1 ≤ w) (hx : x < N) (h30 : q.1 < 30) (h0 : q.2.1 = 0) (hr : ri ≤ v x - v (x - 1)) (hen : en = if v (ftEnd v st (N - 1) (x + w - 1)) < fl then 1 else 0) :
    ftRdM v N w ri st fl tl gl (N - x + 1) x q = ftRdM v N w ri st fl tl gl (N - (ftEnd v st (N - 1) (x + w - 1) + 1) + 1) (ftEnd v st (N - 1) (x + w - 1) + 1) (ftEvQ v tl gl x (ftEnd v st (N - 1) (x + w - 1)) 1 en q) := by
  have e1 := ftEnd_geX (v := v) (st := st) (L := N - 1) (x := x) (y := x + w - 1) (by omega) (by omega)
  rw [ftRdM, if_pos ⟨hx, h30, h0⟩, if_pos hr, hen]
  exact ftRdM_fuel hw _ _ _ _ (by omega) (by omega)
theorem ftRdM_p {v : Nat → Int32} {N w x : Nat} {ri st fl tl gl : Int32} {q : ftRs} {en : Int32} (hw : 1 ≤ w) (hx : x < N) (h30 : q.1 < 30) (h0 : q.2.1 = 0) (hr : ¬ ri ≤ v x - v (x - 1)) (hp : st < -(v x - v (x - 1))) (hen : en = if v (ftEnd v st (N - 1) x) < fl then 1 else 0) :
    ftRdM v N w ri st fl tl gl (N - x + 1) x q = ftRdM v N w ri st fl tl gl (N - (ftEnd v st (N - 1) x + 1) + 1) (ftEnd v st (N - 1) x + 1) (ftEvQ v tl gl x (ftEnd v st (N - 1) x) 0 en q) := by
  have e1 := ftEnd_geX (v := v) (st := st) (L := N - 1) (x := x) (y := x) (by omega) (by omega)
  rw [ftRdM, if_pos ⟨hx, h30, h0⟩, if_neg hr, if_pos hp, hen]
  exact ftRdM_fuel hw _ _ _ _ (by omega) (by omega)
theorem ftRdM_s {v : Nat → Int32} {N w x : Nat} {ri st fl tl gl : Int32} {q : ftRs} (hw : 1 ≤ w) (hx : x < N) (h30 : q.1 < 30) (h0 : q.2.1 = 0) (hr : ¬ ri ≤ v x - v (x - 1)) (hp : ¬ st < -(v x - v (x - 1))) :
    ftRdM v N w ri st fl tl gl (N - x + 1) x q = ftRdM v N w ri st fl tl gl (N - (x + 1) + 1) (x + 1) q := by
  rw [ftRdM, if_pos ⟨hx, h30, h0⟩, if_neg hr, if_neg hp]
  exact ftRdM_fuel hw _ _ _ _ (by omega) (by omega)
theorem ftRdM_e {v : Nat → Int32} {N w x f : Nat} {ri st fl tl gl : Int32} {q : ftRs} (h : ¬ (x < N ∧ q.1 < 30 ∧ q.2.1 = 0)) : ftRdM v N w ri st fl tl gl (f + 1) x q = q := by
  rw [ftRdM, if_neg h]
noncomputable def ftRm (v : Nat → Int32) (N w : Nat) (ri st fl tl gl : Int32) (ro : Nat → Nat → Int32) : ftRs := ftRdM v N w ri st fl tl gl (N - 1 + 1) 1 (0, 0, ro)
theorem ftRdM_r9 {v : Nat → Int32} {N w x y : Nat} {ri st fl tl gl : Int32} {q q9 : ftRs} {en : Int32} (hw : 1 ≤ w) (hx : x < N) (h30 : q.1 < 30) (h0 : q.2.1 = 0) (hr : ri ≤ v x - v (x - 1)) (hy : y = ftEnd v st (N - 1) (x + w - 1)) (hen : en = if v y < fl then 1 else 0) (hq : q9 = ftEvS v (ftEvO v tl gl x y 1 en (q.1, 0, q.2.2)) x y 1 en (q.1, 0, q.2.2)) :
    ftRdM v N w ri st fl tl gl (N - x + 1) x q = ftRdM v N w ri st fl tl gl (N - (y + 1) + 1) (y + 1) q9 := by
  subst hy
  rw [hq]
  exact ftRdM_r hw hx h30 h0 hr hen
theorem ftRdM_p9 {v : Nat → Int32} {N w x y : Nat} {ri st fl tl gl : Int32} {q q9 : ftRs} {en : Int32} (hw : 1 ≤ w) (hx : x < N) (h30 : q.1 < 30) (h0 : q.2.1 = 0) (hr : ¬ ri ≤ v x - v (x - 1)) (hp : st < -(v x - v (x - 1))) (hy : y = ftEnd v st (N - 1) x) (hen : en = if v y < fl then 1 else 0) (hq : q9 = ftEvS v (ftEvO v tl gl x y 0 en (q.1, 0, q.2.2)) x y 0 en (q.1, 0, q.2.2)) :
    ftRdM v N w ri st fl tl gl (N - x + 1) x q = ftRdM v N w ri st fl tl gl (N - (y + 1) + 1) (y + 1) q9 := by
  subst hy
  rw [hq]
  exact ftRdM_p hw hx h30 h0 hr hp hen

