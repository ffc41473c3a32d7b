/-! the reference: words, numbers -/
def ftWs (j : Nat) : Nat := if j = 0 ∨ j = 3 ∨ j = 5 then 6 else if j = 1 then 11 else if j = 2 then 3 else 9
def ftLt (x : Int32) : Int32 := if x = 0 then 108 else if x = 1 then 101 else if x = 2 then 110 else if x = 3 then 103 else if x = 4 then 116 else if x = 5 then 104 else if x = 100 then 97 else if x = 101 then 116 else if x = 102 then 116 else if x = 103 then 101 else if x = 104 then 110 else if x = 105 then 117 else if x = 106 then 97 else if x = 107 then 116 else if x = 108 then 105 else if x = 109 then 111 else if x = 110 then 110 else if x = 200 then 101 else if x = 201 then 110 else if x = 202 then 100 else if x = 300 then 115 else if x = 301 then 112 else if x = 302 then 108 else if x = 303 then 105 else if x = 304 then 99 else if x = 305 then 101 else if x = 400 then 99 else if x = 401 then 111 else if x = 402 then 110 else if x = 403 then 110 else if x = 404 then 101 else if x = 405 then 99 else if x = 406 then 116 else if x = 407 then 111 else if x = 500 then 99 else if x = 501 then 104 else if x = 502 then 97 else if x = 503 then 110 else if x = 504 then 103 else if x = 505 then 101 else 114
/-- how many of the first K have P, from 0 on without a gap -/
noncomputable def ftIni (P : Nat → Prop) : Nat → Nat
  | 0 => 0
  | k + 1 => @ite _ (ftIni P k = k ∧ P k) (Classical.propDecidable _) (k + 1) (ftIni P k)
theorem ftIni_t {P : Nat → Prop} {k : Nat} (h : ftIni P k = k) (h2 : P k) : ftIni P (k + 1) = k + 1 := if_pos ⟨h, h2⟩
theorem ftIni_f {P : Nat → Prop} {k : Nat} (h : ¬ (ftIni P k = k ∧ P k)) : ftIni P (k + 1) = ftIni P k := if_neg h
theorem ftIni_le (P : Nat → Prop) (k : Nat) : ftIni P k ≤ k := by
  induction k with
  | zero => exact Nat.le_refl 0
  | succ k ih =>
    rcases Classical.em (ftIni P k = k ∧ P k) with q | q
    · rw [ftIni_t q.1 q.2]; exact Nat.le_refl _
    · rw [ftIni_f q]; omega
theorem ftIni_all {P : Nat → Prop} {K : Nat} (h : ∀ t, t < K → P t) : ftIni P K = K := by
  induction K with
  | zero => rfl
  | succ K ih => exact ftIni_t (ih (fun t ht => h t (by omega))) (h K (by omega))
theorem ftIni_of {P : Nat → Prop} {j K : Nat} (hj : j ≤ K) (h : ∀ t, t < j → P t) (hs : j < K → ¬ P j) : ftIni P K = j := by
  induction K with
  | zero => obtain rfl : j = 0 := by omega
            rfl
  | succ K ih =>
    by_cases q : j = K + 1
    · subst q; exact ftIni_all h
    · have e := ih (by omega) (fun r => hs (by omega))
      rw [ftIni_f, e]
      rw [e]
      rintro ⟨r1, r2⟩
      subst r1
      exact hs (by omega) r2
theorem ftIni_yes (P : Nat → Prop) (K : Nat) : ∀ t, t < ftIni P K → P t := by
  induction K with
  | zero => intro t h; exact absurd h (Nat.not_lt_zero t)
  | succ K ih =>
    intro t h
    rcases Classical.em (ftIni P K = K ∧ P K) with q | q
    · rw [ftIni_t q.1 q.2] at h
      by_cases r : t = K
      · subst r; exact q.2
      · exact ih t (by omega)
    · rw [ftIni_f q] at h; exact ih t h
theorem ftIni_no (P : Nat → Prop) (K : Nat) (h : ftIni P K < K) : ¬ P (ftIni P K) := by
  induction K with
  | zero => exact absurd h (Nat.not_lt_zero _)
  | succ K ih =>
    rcases Classical.em (ftIni P K = K ∧ P K) with q | q
    · rw [ftIni_t q.1 q.2] at h; exact absurd h (Nat.lt_irrefl _)
    · rw [ftIni_f q] at h ⊢
      rcases Nat.lt_or_ge (ftIni P K) K with r | r
      · exact ih r
      · have e : ftIni P K = K := Nat.le_antisymm (ftIni_le P K) r
        intro p
        rw [e] at p
        exact q ⟨e, p⟩
/-- the run of small letters at p -/
noncomputable def ftRun (tx : Nat → Int32) (tn p : Nat) : Nat := ftIni (fun t => p + t < tn ∧ 97 ≤ tx (p + t) ∧ tx (p + t) ≤ 122) 120
def ftWP (tx : Nat → Int32) (p d j k : Nat) : Prop := d = ftWs j ∧ ∀ t, t < k → tx (p + t) = ftLt (nI (100 * j + t))
noncomputable def ftWd (tx : Nat → Int32) (p d : Nat) : Nat → Int32
  | 0 => -1
  | j + 1 => @ite _ (ftWP tx p d j (ftWs j)) (Classical.propDecidable _) (nI j) (ftWd tx p d j)
theorem ftWd_t {tx : Nat → Int32} {p d j : Nat} (h : ftWP tx p d j (ftWs j)) : ftWd tx p d (j + 1) = nI j := if_pos h
theorem ftWd_f {tx : Nat → Int32} {p d j : Nat} (h : ¬ ftWP tx p d j (ftWs j)) : ftWd tx p d (j + 1) = ftWd tx p d j := if_neg h
theorem ftWP_mono {tx : Nat → Int32} {p d j k m : Nat} (hk : k ≤ m) (h : ftWP tx p d j m) : ftWP tx p d j k := ⟨h.1, fun t ht => h.2 t (by omega)⟩
theorem ftWP_s {tx : Nat → Int32} {p d j k : Nat} (h : ftWP tx p d j k) (e : tx (p + k) = ftLt (nI (100 * j + k))) : ftWP tx p d j (k + 1) := ⟨h.1, fun t ht => by
  rcases Nat.lt_succ_iff_lt_or_eq.mp ht with r | r
  · exact h.2 t r
  · subst r; exact e⟩
theorem ftWs_le (j : Nat) : ftWs j ≤ 11 := by unfold ftWs; (repeat' split) <;> omega
/-- a number at p: whether a blank stands there, whether a minus, where its digits begin, how many, their value -/
def ftSp (tx : Nat → Int32) (tn p : Nat) : Prop := p < tn ∧ tx p = 32
def ftNg (tx : Nat → Int32) (tn p : Nat) : Prop := p + 1 < tn ∧ tx (p + 1) = 45
noncomputable def ftNq (tx : Nat → Int32) (tn p : Nat) : Nat := @ite _ (ftNg tx tn p) (Classical.propDecidable _) (p + 2) (p + 1)
theorem ftNq_t {tx : Nat → Int32} {tn p : Nat} (h : ftNg tx tn p) : ftNq tx tn p = p + 2 := if_pos h
theorem ftNq_f {tx : Nat → Int32} {tn p : Nat} (h : ¬ ftNg tx tn p) : ftNq tx tn p = p + 1 := if_neg h
def ftDp (tx : Nat → Int32) (tn q : Nat) : Nat → Prop := fun t => q + t < tn ∧ 48 ≤ tx (q + t) ∧ tx (q + t) ≤ 57
noncomputable def ftNd (tx : Nat → Int32) (tn q : Nat) : Nat := ftIni (ftDp tx tn q) 5
def ftDg (tx : Nat → Int32) (q : Nat) : Nat → Int32
  | 0 => 0
  | k + 1 => 10 * ftDg tx q k + tx (q + k) - 48
noncomputable def ftNv (tx : Nat → Int32) (tn p : Nat) : Int32 := @ite _ (ftNg tx tn p) (Classical.propDecidable _) ((-1) * ftDg tx (ftNq tx tn p) (ftNd tx tn (ftNq tx tn p))) (1 * ftDg tx (ftNq tx tn p) (ftNd tx tn (ftNq tx tn p)))
theorem ftNv_t {tx : Nat → Int32} {tn p : Nat} (h : ftNg tx tn p) : ftNv tx tn p = (-1) * ftDg tx (ftNq tx tn p) (ftNd tx tn (ftNq tx tn p)) := if_pos h
theorem ftNv_f {tx : Nat → Int32} {tn p : Nat} (h : ¬ ftNg tx tn p) : ftNv tx tn p = 1 * ftDg tx (ftNq tx tn p) (ftNd tx tn (ftNq tx tn p)) := if_neg h
noncomputable def ftNe (tx : Nat → Int32) (tn p : Nat) : Nat := @ite _ (ftSp tx tn p) (Classical.propDecidable _) (ftNq tx tn p + ftNd tx tn (ftNq tx tn p)) p
theorem ftNe_t {tx : Nat → Int32} {tn p : Nat} (h : ftSp tx tn p) : ftNe tx tn p = ftNq tx tn p + ftNd tx tn (ftNq tx tn p) := if_pos h
theorem ftNe_f {tx : Nat → Int32} {tn p : Nat} (h : ¬ ftSp tx tn p) : ftNe tx tn p = p := if_neg h
noncomputable def ftNf (tx : Nat → Int32) (tn p i : Nat) (fg : Nat → Int32) : Nat → Int32 := @ite _ (ftSp tx tn p) (Classical.propDecidable _) (upd fg i (ftNv tx tn p)) fg
theorem ftNf_t {tx : Nat → Int32} {tn p i : Nat} {fg : Nat → Int32} (h : ftSp tx tn p) : ftNf tx tn p i fg = upd fg i (ftNv tx tn p) := if_pos h
theorem ftNf_f {tx : Nat → Int32} {tn p i : Nat} {fg : Nat → Int32} (h : ¬ ftSp tx tn p) : ftNf tx tn p i fg = fg := if_neg h
def ftNok (tx : Nat → Int32) (tn p : Nat) : Prop := ftSp tx tn p ∧ 0 < ftNd tx tn (ftNq tx tn p)
theorem ftNq_le {tx : Nat → Int32} {tn p : Nat} (h : p < tn) : ftNq tx tn p ≤ tn := by
  rcases Classical.em (ftNg tx tn p) with q | q
  · rw [ftNq_t q]; have := q.1; omega
  · rw [ftNq_f q]; omega
theorem ftNd_le {tx : Nat → Int32} {tn q : Nat} (h : q ≤ tn) : q + ftNd tx tn q ≤ tn := by
  rcases Nat.eq_zero_or_pos (ftNd tx tn q) with e | e
  · omega
  · have := (ftIni_yes (ftDp tx tn q) 5 (ftNd tx tn q - 1) (by unfold ftNd at e ⊢; omega)).1
    omega
theorem ftNe_le {tx : Nat → Int32} {tn p : Nat} (h : p ≤ tn) : ftNe tx tn p ≤ tn := by
  rcases Classical.em (ftSp tx tn p) with q | q
  · rw [ftNe_t q]; exact ftNd_le (ftNq_le q.1)
  · rw [ftNe_f q]; exact h
def ftNs (x : Int32) : Nat := if x < 3 then 1 else if x = 4 then 3 else 2
theorem ftNs_le (x : Int32) : ftNs x ≤ 3 := by unfold ftNs; (repeat' split) <;> omega
theorem ftNs_ge (x : Int32) : 1 ≤ ftNs x := by unfold ftNs; (repeat' split) <;> omega
def ftRt (wd : Int32) (i : Nat) (v ln : Int32) : Prop := if wd = 0 then 50 ≤ v ∧ v ≤ 400 else if wd = 1 then 0 ≤ v ∧ v ≤ 50 else if wd = 2 then 0 ≤ v ∧ v ≤ 20000 else if i = 0 then 1 ≤ v ∧ v ≤ ln - 1 else if i = 2 then 1 ≤ v ∧ v ≤ 20000 else if wd = 3 then -500 ≤ v ∧ v ≤ 5000 else if wd = 4 then 0 ≤ v ∧ v ≤ 5000 else 0 ≤ v ∧ v ≤ 50







