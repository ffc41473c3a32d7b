/-! the reference: words, numbers -/
def ftWs (j : Nat) : Nat := if j = 0 ∨ j = 3 ∨ j = 5 then 6 else if j = 1 then 11 else if j = 2 then 3 else 9
def ftLt (x : Int32) : Int32 := if x = 0 then 108 else if x = 1 then 101 else if x = 2 then 110 else if x = 3 then 103 else if x = 4 then 116 else if x = 5 then 104 else if x = 100 then 97 else if x = 101 then 116 else if x = 102 then 116 else if x = 103 then 101 else if x = 104 then 110 else if x = 105 then 117 else if x = 106 then 97 else if x = 107 then 116 else if x = 108 then 105 else if x = 109 then 111 else if x = 110 then 110 else if x = 200 then 101 else if x = 201 then 110 else if x = 202 then 100 else if x = 300 then 115 else if x = 301 then 112 else if x = 302 then 108 else if x = 303 then 105 else if x = 304 then 99 else if x = 305 then 101 else if x = 400 then 99 else if x = 401 then 111 else if x = 402 then 110 else if x = 403 then 110 else if x = 404 then 101 else if x = 405 then 99 else if x = 406 then 116 else if x = 407 then 111 else if x = 500 then 99 else if x = 501 then 104 else if x = 502 then 97 else if x = 503 then 110 else if x = 504 then 103 else if x = 505 then 101 else 114
/-- how many of the first K have P, from 0 on without a gap -/
noncomputable def ftIni (P : Nat → Prop) : Nat → Nat
  | 0 => 0
  | k + 1 => @ite _ (ftIni P k = k ∧ P k) (Classical.propDecidable _) (k + 1) (ftIni P k)
theorem ftIni_t {P : Nat → Prop} {k : Nat} (h : ftIni P k = k) (h2 : P k) : ftIni P (k + 1) = k + 1 := if_pos ⟨h, h2⟩
theorem ftIni_f {P : Nat → Prop} {k : Nat} (h : ¬ (ftIni P k = k ∧ P k)) : ftIni P (k + 1) = ftIni P k := if_neg h
theorem ftIni_le (P : Nat → Prop) (k : Nat) : ftIni P k ≤ k := by
  induction k with
  | zero => exact Nat.le_refl 0
  | succ k ih =>
    rcases Classical.em (ftIni P k = k ∧ P k) with q | q
    · rw [ftIni_t q.1 q.2]; exact Nat.le_refl _
    · rw [ftIni_f q]; omega
theorem ftIni_all {P : Nat → Prop} {K : Nat} (h : ∀ t, t < K → P t) : ftIni P K = K := by
  induction K with
  | zero => rfl
  | succ K ih => exact ftIni_t (ih (fun t ht => h t (by omega))) (h K (by omega))
theorem ftIni_of {P : Nat → Prop} {j K : Nat} (hj : j ≤ K) (h : ∀ t, t < j → P t) (hs : j < K → ¬ P j) : ftIni P K = j := by
  induction K with
  | zero => obtain rfl : j = 0 := by omega
            rfl
  | succ K ih =>
    by_cases q : j = K + 1
    · subst q; exact ftIni_all h
    · have e := ih (by omega) (fun r => hs (by omega))
      rw [ftIni_f, e]
      rw [e]
      rintro ⟨r1, r2⟩
      subst r1
      exact hs (by omega) r2
theorem ftIni_yes (P : Nat → Prop) (K : Nat) : ∀ t, t < ftIni P K → P t := by
  induction K with
  | zero => intro t h; exact absurd h (Nat.not_lt_zero t)
  | succ K ih =>
    intro t h
    rcases Classical.em (ftIni P K = K ∧ P K) with q | q
    · rw [ftIni_t q.1 q.2] at h
      by_cases r : t = K
      · subst r; exact q.2
      · exact ih t (by omega)
    · rw [ftIni_f q] at h; exact ih t h
theorem ftIni_no (P : Nat → Prop) (K : Nat) (h : ftIni P K < K) : ¬ P (ftIni P K) := by
  induction K with
  | zero => exact absurd h (Nat.not_lt_zero _)
  | succ K ih =>
    rcases Classical.em (ftIni P K = K ∧ P K) with q | q
    · rw [ftIni_t q.1 q.2] at h; exact absurd h (Nat.lt_irrefl _)
    · rw [ftIni_f q] at h ⊢
      rcases Nat.lt_or_ge (ftIni P K) K with r | r
      · exact ih r
      · have e : ftIni P K = K := Nat.le_antisymm (ftIni_le P K) r
        intro p
        rw [e] at p
        exact q ⟨e, p⟩
/-- the run of small letters at p -/
noncomputable def ftRun (tx : Nat → Int32) (tn p : Nat) : Nat := ftIni (fun t => p + t < tn ∧ 97 ≤ tx (p + t) ∧ tx (p + t) ≤ 122) 120
def ftWP (tx : Nat → Int32) (p d j k : Nat) : Prop := d = ftWs j ∧ ∀ t, t < k → tx (p + t) = ftLt (nI (100 * j + t))
noncomputable def ftWd (tx : Nat → Int32) (p d : Nat) : Nat → Int32
  | 0 => -1
  | j + 1 => @ite _ (ftWP tx p d j (ftWs j)) (Classical.propDecidable _) (nI j) (ftWd tx p d j)
theorem ftWd_t {tx : Nat → Int32} {p d j : Nat} (h : ftWP tx p d j (ftWs j)) : ftWd tx p d (j + 1) = nI j := if_pos h
theorem ftWd_f {tx : Nat → Int32} {p d j : Nat} (h : ¬ ftWP tx p d j (ftWs j)) : ftWd tx p d (j + 1) = ftWd tx p d j := if_neg h
theorem ftWP_mono {tx : Nat → Int32} {p d j k m : Nat} (hk : k ≤ m) (h : ftWP tx p d j m) : ftWP tx p d j k := ⟨h.1, fun t ht => h.2 t (by omega)⟩
theorem ftWP_s {tx : Nat → Int32} {p d j k : Nat} (h : ftWP tx p d j k) (e : tx (p + k) = ftLt (nI (100 * j + k))) : ftWP tx p d j (k + 1) := ⟨h.1, fun t ht => by
  rcases Nat.lt_succ_iff_lt_or_eq.mp ht with r | r
  · exact h.2 t r
  · subst r; exact e⟩
theorem ftWs_le (j : Nat) : ftWs j ≤ 11 := by unfold ftWs; (repeat' split) <;> omega
/-- a number at p: whether a blank stands there, whether a minus, where its digits begin, how many, their value -/
def ftSp (tx : Nat → Int32) (tn p : Nat) : Prop := p < tn ∧ tx p = 32
def ftNg (tx : Nat → Int32) (tn p : Nat) : Prop := p + 1 < tn ∧ tx (p + 1) = 45
noncomputable def ftNq (tx : Nat → Int32) (tn p : Nat) : Nat := @ite _ (ftNg tx tn p) (Classical.propDecidable _) (p + 2) (p + 1)
theorem ftNq_t {tx : Nat → Int32} {tn p : Nat} (h : ftNg tx tn p) : ftNq tx tn p = p + 2 := if_pos h
theorem ftNq_f {tx : Nat → Int32} {tn p : Nat} (h : ¬ ftNg tx tn p) : ftNq tx tn p = p + 1 := if_neg h
def ftDp (tx : Nat → Int32) (tn q : Nat) : Nat → Prop := fun t => q + t < tn ∧ 48 ≤ tx (q + t) ∧ tx (q + t) ≤ 57
noncomputable def ftNd (tx : Nat → Int32) (tn q : Nat) : Nat := ftIni (ftDp tx tn q) 5
def ftDg (tx : Nat → Int32) (q : Nat) : Nat → Int32
  | 0 => 0
  | k + 1 => 10 * ftDg tx q k + tx (q + k) - 48
noncomputable def ftNv (tx : Nat → Int32) (tn p : Nat) : Int32 := @ite _ (ftNg tx tn p) (Classical.propDecidable _) ((-1) * ftDg tx (ftNq tx tn p) (ftNd tx tn (ftNq tx tn p))) (1 * ftDg tx (ftNq tx tn p) (ftNd tx tn (ftNq tx tn p)))
theorem ftNv_t {tx : Nat → Int32} {tn p : Nat} (h : ftNg tx tn p) : ftNv tx tn p = (-1) * ftDg tx (ftNq tx tn p) (ftNd tx tn (ftNq tx tn p)) := if_pos h
theorem ftNv_f {tx : Nat → Int32} {tn p : Nat} (h : ¬ ftNg tx tn p) : ftNv tx tn p = 1 * ftDg tx (ftNq tx tn p) (ftNd tx tn (ftNq tx tn p)) := if_neg h
noncomputable def ftNe (tx : Nat → Int32) (tn p : Nat) : Nat := @ite _ (ftSp tx tn p) (Classical.propDecidable _) (ftNq tx tn p + ftNd tx tn (ftNq tx tn p)) p
theorem ftNe_t {tx : Nat → Int32} {tn p : Nat} (h : ftSp tx tn p) : ftNe tx tn p = ftNq tx tn p + ftNd tx tn (ftNq tx tn p) := if_pos h
theorem ftNe_f {tx : Nat → Int32} {tn p : Nat} (h : ¬ ftSp tx tn p) : ftNe tx tn p = p := if_neg h
noncomputable def ftNf (tx : Nat → Int32) (tn p i : Nat) (fg : Nat → Int32) : Nat → Int32 := @ite _ (ftSp tx tn p) (Classical.propDecidable _) (upd fg i (ftNv tx tn p)) fg
theorem ftNf_t {tx : Nat → Int32} {tn p i : Nat} {fg : Nat → Int32} (h : ftSp tx tn p) : ftNf tx tn p i fg = upd fg i (ftNv tx tn p) := if_pos h
theorem ftNf_f {tx : Nat → Int32} {tn p i : Nat} {fg : Nat → Int32} (h : ¬ ftSp tx tn p) : ftNf tx tn p i fg = fg := if_neg h
def ftNok (tx : Nat → Int32) (tn p : Nat) : Prop := ftSp tx tn p ∧ 0 < ftNd tx tn (ftNq tx tn p)
theorem ftNq_le {tx : Nat → Int32} {tn p : Nat} (h : p < tn) : ftNq tx tn p ≤ tn := by
  rcases Classical.em (ftNg tx tn p) with q | q
  · rw [ftNq_t q]; have := q.1; omega
  · rw [ftNq_f q]; omega
theorem ftNd_le {tx : Nat → Int32} {tn q : Nat} (h : q ≤ tn) : q + ftNd tx tn q ≤ tn := by
  rcases Nat.eq_zero_or_pos (ftNd tx tn q) with e | e
  · omega
  · have := (ftIni_yes (ftDp tx tn q) 5 (ftNd tx tn q - 1) (by unfold ftNd at e ⊢; omega)).1
    omega
theorem ftNe_le {tx : Nat → Int32} {tn p : Nat} (h : p ≤ tn) : ftNe tx tn p ≤ tn := by
  rcases Classical.em (ftSp tx tn p) with q | q
  · rw [ftNe_t q]; exact ftNd_le (ftNq_le q.1)
  · rw [ftNe_f q]; exact h
def ftNs (x : Int32) : Nat := if x < 3 then 1 else if x = 4 then 3 else 2
theorem ftNs_le (x : Int32) : ftNs x ≤ 3 := by unfold ftNs; (repeat' split) <;> omega
theorem ftNs_ge (x : Int32) : 1 ≤ ftNs x := by unfold ftNs; (repeat' split) <;> omega
def ftRt (wd : Int32) (i : Nat) (v ln : Int32) : Prop := if wd = 0 then 50 ≤ v ∧ v ≤ 400 else if wd = 1 then 0 ≤ v ∧ v ≤ 50 else if wd = 2 then 0 ≤ v ∧ v ≤ 20000 else if i = 0 then 1 ≤ v ∧ v ≤ ln - 1 else if i = 2 then 1 ≤ v ∧ v ≤ 20000 else if wd = 3 then -500 ≤ v ∧ v ≤ 5000 else if wd = 4 then 0 ≤ v ∧ v ≤ 5000 else 0 ≤ v ∧ v ≤ 50
set_option maxHeartbeats 4000000 in
set_option maxRecDepth 100000 in
theorem c_X11_wordSize (l : Launch) (D : va_G) (cI cS : ClassId) (j : Nat) (hj : j < 6) : Met l yX11_wordSize wsX11_wordSize ({ frames := 0, cells := 0, slots := 0, locals := 0 }) (ftRO D cI cS [.int (nI j)] []) (vp_Si (fun o9 => o9 = nI (ftWs j))) 0 0 (fun _ => False) := by
  refine Met.ofW (cc := cX11_wordSize) (maxL := 1) (ret := (some .int)) (by decide) rfl ?_
  intro p e s m args below meth c s₁ B hml hv
  obtain ⟨rfl, hP, hKK⟩ := hv
  have hK := hKK.1
  have hx := B.exec
  have hb := B.bytes
  have hr := B.returns
  have hts := atoms_spec (ws := wsX11_wordSize) B.pre
  have hown : s.vm.findClass RX11 = some m.cls := findClass_of_methodNamed B.named
  have hlocks := B.notSynchronized
  have hP : va_P D vwCl [] s.heap := hP
  have hl := lv_entry ([.int (nI j)]) (n := 1) (Nat.le_of_ble_eq_true rfl)
  rw [lg_entry_eq]
  generalize (lg_sl ([.int (nI j)]) ++ List.replicate (1 - (lg_sl ([.int (nI j)])).length) Slot.unset).toArray = ls at hl ⊢
  have hl : lv_has ls 1 [(0, .int (nI j))] := hl
  refine lv_iload_n hx hb dX11_wordSize_0 rfl (lv_at hl 0 rfl) ?_
  refine lv_if_eq (tgt := 14) hx hb dX11_wordSize_1 (by decide) (fun c1 => ?_) (fun c1 => ?_)
  · have c1n : j = 0 := ft_eqN (by omega) (by omega) c1
    refine lv_bipush (v := 6) hx hb dX11_wordSize_14 (by decide) ?_
    refine lv_goto (tgt := 40) hx hb dX11_wordSize_16 (by decide) ?_
    exact W.iret (v := 6) hx hb hr (fun t ht hW => ⟨6, rfl, (by show (6 : Int32) = nI (ftWs j); unfold ftWs; first | (rw [if_pos (Or.inl c1n)]; rfl) | (rw [if_pos (Or.inr (Or.inl c6n))]; rfl) | (rw [if_pos (Or.inr (Or.inr c11n))]; rfl) | (rw [if_neg (by omega), if_pos c21n]; rfl) | (rw [if_neg (by omega), if_neg c21n, if_pos c31n]; rfl) | (rw [if_neg (by omega), if_neg c21n, if_neg c31n]; rfl)), ht⟩) (fun _ h9 => absurd h9 List.not_mem_nil) dX11_wordSize_40
  · have c1n : j ≠ 0 := ft_neN (by omega) (by omega) c1
    refine lv_iload_n hx hb dX11_wordSize_4 rfl (lv_at hl 0 rfl) ?_
    refine lv_iconst (v := 3) hx hb dX11_wordSize_5 (by decide) ?_
    refine lv_icmp_eq (tgt := 14) hx hb dX11_wordSize_6 (by decide) (fun c6 => ?_) (fun c6 => ?_)
    · have c6n : j = 3 := ft_eqN (by omega) (by omega) c6
      refine lv_bipush (v := 6) hx hb dX11_wordSize_14 (by decide) ?_
      refine lv_goto (tgt := 40) hx hb dX11_wordSize_16 (by decide) ?_
      exact W.iret (v := 6) hx hb hr (fun t ht hW => ⟨6, rfl, (by show (6 : Int32) = nI (ftWs j); unfold ftWs; first | (rw [if_pos (Or.inl c1n)]; rfl) | (rw [if_pos (Or.inr (Or.inl c6n))]; rfl) | (rw [if_pos (Or.inr (Or.inr c11n))]; rfl) | (rw [if_neg (by omega), if_pos c21n]; rfl) | (rw [if_neg (by omega), if_neg c21n, if_pos c31n]; rfl) | (rw [if_neg (by omega), if_neg c21n, if_neg c31n]; rfl)), ht⟩) (fun _ h9 => absurd h9 List.not_mem_nil) dX11_wordSize_40
    · have c6n : j ≠ 3 := ft_neN (by omega) (by omega) c6
      refine lv_iload_n hx hb dX11_wordSize_9 rfl (lv_at hl 0 rfl) ?_
      refine lv_iconst (v := 5) hx hb dX11_wordSize_10 (by decide) ?_
      refine lv_icmp_ne (tgt := 19) hx hb dX11_wordSize_11 (by decide) (fun c11 => ?_) (fun c11 => ?_)
      · have c11n : j ≠ 5 := ft_neN (by omega) (by omega) c11
        refine lv_iload_n hx hb dX11_wordSize_19 rfl (lv_at hl 0 rfl) ?_
        refine lv_iconst (v := 1) hx hb dX11_wordSize_20 (by decide) ?_
        refine lv_icmp_ne (tgt := 29) hx hb dX11_wordSize_21 (by decide) (fun c21 => ?_) (fun c21 => ?_)
        · have c21n : j ≠ 1 := ft_neN (by omega) (by omega) c21
          refine lv_iload_n hx hb dX11_wordSize_29 rfl (lv_at hl 0 rfl) ?_
          refine lv_iconst (v := 2) hx hb dX11_wordSize_30 (by decide) ?_
          refine lv_icmp_ne (tgt := 38) hx hb dX11_wordSize_31 (by decide) (fun c31 => ?_) (fun c31 => ?_)
          · have c31n : j ≠ 2 := ft_neN (by omega) (by omega) c31
            refine lv_bipush (v := 9) hx hb dX11_wordSize_38 (by decide) ?_
            exact W.iret (v := 9) hx hb hr (fun t ht hW => ⟨9, rfl, (by show (9 : Int32) = nI (ftWs j); unfold ftWs; first | (rw [if_pos (Or.inl c1n)]; rfl) | (rw [if_pos (Or.inr (Or.inl c6n))]; rfl) | (rw [if_pos (Or.inr (Or.inr c11n))]; rfl) | (rw [if_neg (by omega), if_pos c21n]; rfl) | (rw [if_neg (by omega), if_neg c21n, if_pos c31n]; rfl) | (rw [if_neg (by omega), if_neg c21n, if_neg c31n]; rfl)), ht⟩) (fun _ h9 => absurd h9 List.not_mem_nil) dX11_wordSize_40
          · have c31n : j = 2 := ft_eqN (by omega) (by omega) c31
            refine lv_iconst (v := 3) hx hb dX11_wordSize_34 (by decide) ?_
            refine lv_goto (tgt := 40) hx hb dX11_wordSize_35 (by decide) ?_
            exact W.iret (v := 3) hx hb hr (fun t ht hW => ⟨3, rfl, (by show (3 : Int32) = nI (ftWs j); unfold ftWs; first | (rw [if_pos (Or.inl c1n)]; rfl) | (rw [if_pos (Or.inr (Or.inl c6n))]; rfl) | (rw [if_pos (Or.inr (Or.inr c11n))]; rfl) | (rw [if_neg (by omega), if_pos c21n]; rfl) | (rw [if_neg (by omega), if_neg c21n, if_pos c31n]; rfl) | (rw [if_neg (by omega), if_neg c21n, if_neg c31n]; rfl)), ht⟩) (fun _ h9 => absurd h9 List.not_mem_nil) dX11_wordSize_40
        · have c21n : j = 1 := ft_eqN (by omega) (by omega) c21
          refine lv_bipush (v := 11) hx hb dX11_wordSize_24 (by decide) ?_
          refine lv_goto (tgt := 40) hx hb dX11_wordSize_26 (by decide) ?_
          exact W.iret (v := 11) hx hb hr (fun t ht hW => ⟨11, rfl, (by show (11 : Int32) = nI (ftWs j); unfold ftWs; first | (rw [if_pos (Or.inl c1n)]; rfl) | (rw [if_pos (Or.inr (Or.inl c6n))]; rfl) | (rw [if_pos (Or.inr (Or.inr c11n))]; rfl) | (rw [if_neg (by omega), if_pos c21n]; rfl) | (rw [if_neg (by omega), if_neg c21n, if_pos c31n]; rfl) | (rw [if_neg (by omega), if_neg c21n, if_neg c31n]; rfl)), ht⟩) (fun _ h9 => absurd h9 List.not_mem_nil) dX11_wordSize_40
      · have c11n : j = 5 := ft_eqN (by omega) (by omega) c11
        refine lv_bipush (v := 6) hx hb dX11_wordSize_14 (by decide) ?_
        refine lv_goto (tgt := 40) hx hb dX11_wordSize_16 (by decide) ?_
        exact W.iret (v := 6) hx hb hr (fun t ht hW => ⟨6, rfl, (by show (6 : Int32) = nI (ftWs j); unfold ftWs; first | (rw [if_pos (Or.inl c1n)]; rfl) | (rw [if_pos (Or.inr (Or.inl c6n))]; rfl) | (rw [if_pos (Or.inr (Or.inr c11n))]; rfl) | (rw [if_neg (by omega), if_pos c21n]; rfl) | (rw [if_neg (by omega), if_neg c21n, if_pos c31n]; rfl) | (rw [if_neg (by omega), if_neg c21n, if_neg c31n]; rfl)), ht⟩) (fun _ h9 => absurd h9 List.not_mem_nil) dX11_wordSize_40
set_option maxHeartbeats 4000000 in
set_option maxRecDepth 100000 in
theorem c_X11_letterOf (l : Launch) (D : va_G) (cI cS : ClassId) (j k : Nat) (hj : j < 6) (hk : k < 100) : Met l yX11_letterOf wsX11_letterOf ({ frames := 0, cells := 0, slots := 0, locals := 0 }) (ftRO D cI cS [.int (nI j), .int (nI k)] []) (vp_Si (fun o9 => o9 = ftLt (nI (100 * j + k)))) 0 0 (fun _ => False) := by
  refine Met.ofW (cc := cX11_letterOf) (maxL := 2) (ret := (some .int)) (by decide) rfl ?_
  intro p e s m args below meth c s₁ B hml hv
  obtain ⟨rfl, hP, hKK⟩ := hv
  have hK := hKK.1
  have hx := B.exec
  have hb := B.bytes
  have hr := B.returns
  have hts := atoms_spec (ws := wsX11_letterOf) B.pre
  have hown : s.vm.findClass RX11 = some m.cls := findClass_of_methodNamed B.named
  have hlocks := B.notSynchronized
  have hP : va_P D vwCl [] s.heap := hP
  have hl := lv_entry ([.int (nI j), .int (nI k)]) (n := 2) (Nat.le_of_ble_eq_true rfl)
  rw [lg_entry_eq]
  generalize (lg_sl ([.int (nI j), .int (nI k)]) ++ List.replicate (2 - (lg_sl ([.int (nI j), .int (nI k)])).length) Slot.unset).toArray = ls at hl ⊢
  have hl : lv_has ls 2 [(0, .int (nI j)), (1, .int (nI k))] := hl
  refine lv_bipush (v := 100) hx hb dX11_letterOf_0 (by decide) ?_
  refine lv_iload_n hx hb dX11_letterOf_2 rfl (lv_at hl 0 rfl) ?_
  refine lv_imul hx hb dX11_letterOf_3 ?_
  refine ft_top (y := nI (100 * j)) (ft_mulN 100 j) ?_
  refine lv_iload_n hx hb dX11_letterOf_4 rfl (lv_at hl 1 rfl) ?_
  refine lv_iadd hx hb dX11_letterOf_5 ?_
  refine ft_top (y := nI ((100 * j) + k)) (ft_addN (100 * j) k) ?_
  by_cases c6_0 : (nI ((100 * j) + k)) = 0
  · refine lv_lookup (off := 330) (tgt := 336) hx hb dX11_letterOf_6 (by decide) (by rw [c6_0]; decide) (by decide) ?_
    refine lv_bipush (v := 108) hx hb dX11_letterOf_336 (by decide) ?_
    exact W.iret (v := 108) hx hb hr (fun t ht hW => ⟨108, rfl, (by show (108 : Int32) = ftLt (nI (100 * j + k)); first | (rw [c6_0]; rfl) | (rw [c6_1]; rfl) | (rw [c6_2]; rfl) | (rw [c6_3]; rfl) | (rw [c6_4]; rfl) | (rw [c6_5]; rfl) | (rw [c6_100]; rfl) | (rw [c6_101]; rfl) | (rw [c6_102]; rfl) | (rw [c6_103]; rfl) | (rw [c6_104]; rfl) | (rw [c6_105]; rfl) | (rw [c6_106]; rfl) | (rw [c6_107]; rfl) | (rw [c6_108]; rfl) | (rw [c6_109]; rfl) | (rw [c6_110]; rfl) | (rw [c6_200]; rfl) | (rw [c6_201]; rfl) | (rw [c6_202]; rfl) | (rw [c6_300]; rfl) | (rw [c6_301]; rfl) | (rw [c6_302]; rfl) | (rw [c6_303]; rfl) | (rw [c6_304]; rfl) | (rw [c6_305]; rfl) | (rw [c6_400]; rfl) | (rw [c6_401]; rfl) | (rw [c6_402]; rfl) | (rw [c6_403]; rfl) | (rw [c6_404]; rfl) | (rw [c6_405]; rfl) | (rw [c6_406]; rfl) | (rw [c6_407]; rfl) | (rw [c6_500]; rfl) | (rw [c6_501]; rfl) | (rw [c6_502]; rfl) | (rw [c6_503]; rfl) | (rw [c6_504]; rfl) | (rw [c6_505]; rfl) | (unfold ftLt; rw [if_neg c6_0, if_neg c6_1, if_neg c6_2, if_neg c6_3, if_neg c6_4, if_neg c6_5, if_neg c6_100, if_neg c6_101, if_neg c6_102, if_neg c6_103, if_neg c6_104, if_neg c6_105, if_neg c6_106, if_neg c6_107, if_neg c6_108, if_neg c6_109, if_neg c6_110, if_neg c6_200, if_neg c6_201, if_neg c6_202, if_neg c6_300, if_neg c6_301, if_neg c6_302, if_neg c6_303, if_neg c6_304, if_neg c6_305, if_neg c6_400, if_neg c6_401, if_neg c6_402, if_neg c6_403, if_neg c6_404, if_neg c6_405, if_neg c6_406, if_neg c6_407, if_neg c6_500, if_neg c6_501, if_neg c6_502, if_neg c6_503, if_neg c6_504, if_neg c6_505])), ht⟩) (fun _ h9 => absurd h9 List.not_mem_nil) dX11_letterOf_338
  by_cases c6_1 : (nI ((100 * j) + k)) = 1
  · refine lv_lookup (off := 333) (tgt := 339) hx hb dX11_letterOf_6 (by decide) (by rw [c6_1]; decide) (by decide) ?_
    refine lv_bipush (v := 101) hx hb dX11_letterOf_339 (by decide) ?_
    exact W.iret (v := 101) hx hb hr (fun t ht hW => ⟨101, rfl, (by show (101 : Int32) = ftLt (nI (100 * j + k)); first | (rw [c6_0]; rfl) | (rw [c6_1]; rfl) | (rw [c6_2]; rfl) | (rw [c6_3]; rfl) | (rw [c6_4]; rfl) | (rw [c6_5]; rfl) | (rw [c6_100]; rfl) | (rw [c6_101]; rfl) | (rw [c6_102]; rfl) | (rw [c6_103]; rfl) | (rw [c6_104]; rfl) | (rw [c6_105]; rfl) | (rw [c6_106]; rfl) | (rw [c6_107]; rfl) | (rw [c6_108]; rfl) | (rw [c6_109]; rfl) | (rw [c6_110]; rfl) | (rw [c6_200]; rfl) | (rw [c6_201]; rfl) | (rw [c6_202]; rfl) | (rw [c6_300]; rfl) | (rw [c6_301]; rfl) | (rw [c6_302]; rfl) | (rw [c6_303]; rfl) | (rw [c6_304]; rfl) | (rw [c6_305]; rfl) | (rw [c6_400]; rfl) | (rw [c6_401]; rfl) | (rw [c6_402]; rfl) | (rw [c6_403]; rfl) | (rw [c6_404]; rfl) | (rw [c6_405]; rfl) | (rw [c6_406]; rfl) | (rw [c6_407]; rfl) | (rw [c6_500]; rfl) | (rw [c6_501]; rfl) | (rw [c6_502]; rfl) | (rw [c6_503]; rfl) | (rw [c6_504]; rfl) | (rw [c6_505]; rfl) | (unfold ftLt; rw [if_neg c6_0, if_neg c6_1, if_neg c6_2, if_neg c6_3, if_neg c6_4, if_neg c6_5, if_neg c6_100, if_neg c6_101, if_neg c6_102, if_neg c6_103, if_neg c6_104, if_neg c6_105, if_neg c6_106, if_neg c6_107, if_neg c6_108, if_neg c6_109, if_neg c6_110, if_neg c6_200, if_neg c6_201, if_neg c6_202, if_neg c6_300, if_neg c6_301, if_neg c6_302, if_neg c6_303, if_neg c6_304, if_neg c6_305, if_neg c6_400, if_neg c6_401, if_neg c6_402, if_neg c6_403, if_neg c6_404, if_neg c6_405, if_neg c6_406, if_neg c6_407, if_neg c6_500, if_neg c6_501, if_neg c6_502, if_neg c6_503, if_neg c6_504, if_neg c6_505])), ht⟩) (fun _ h9 => absurd h9 List.not_mem_nil) dX11_letterOf_341
  by_cases c6_2 : (nI ((100 * j) + k)) = 2
  · refine lv_lookup (off := 336) (tgt := 342) hx hb dX11_letterOf_6 (by decide) (by rw [c6_2]; decide) (by decide) ?_
    refine lv_bipush (v := 110) hx hb dX11_letterOf_342 (by decide) ?_
    exact W.iret (v := 110) hx hb hr (fun t ht hW => ⟨110, rfl, (by show (110 : Int32) = ftLt (nI (100 * j + k)); first | (rw [c6_0]; rfl) | (rw [c6_1]; rfl) | (rw [c6_2]; rfl) | (rw [c6_3]; rfl) | (rw [c6_4]; rfl) | (rw [c6_5]; rfl) | (rw [c6_100]; rfl) | (rw [c6_101]; rfl) | (rw [c6_102]; rfl) | (rw [c6_103]; rfl) | (rw [c6_104]; rfl) | (rw [c6_105]; rfl) | (rw [c6_106]; rfl) | (rw [c6_107]; rfl) | (rw [c6_108]; rfl) | (rw [c6_109]; rfl) | (rw [c6_110]; rfl) | (rw [c6_200]; rfl) | (rw [c6_201]; rfl) | (rw [c6_202]; rfl) | (rw [c6_300]; rfl) | (rw [c6_301]; rfl) | (rw [c6_302]; rfl) | (rw [c6_303]; rfl) | (rw [c6_304]; rfl) | (rw [c6_305]; rfl) | (rw [c6_400]; rfl) | (rw [c6_401]; rfl) | (rw [c6_402]; rfl) | (rw [c6_403]; rfl) | (rw [c6_404]; rfl) | (rw [c6_405]; rfl) | (rw [c6_406]; rfl) | (rw [c6_407]; rfl) | (rw [c6_500]; rfl) | (rw [c6_501]; rfl) | (rw [c6_502]; rfl) | (rw [c6_503]; rfl) | (rw [c6_504]; rfl) | (rw [c6_505]; rfl) | (unfold ftLt; rw [if_neg c6_0, if_neg c6_1, if_neg c6_2, if_neg c6_3, if_neg c6_4, if_neg c6_5, if_neg c6_100, if_neg c6_101, if_neg c6_102, if_neg c6_103, if_neg c6_104, if_neg c6_105, if_neg c6_106, if_neg c6_107, if_neg c6_108, if_neg c6_109, if_neg c6_110, if_neg c6_200, if_neg c6_201, if_neg c6_202, if_neg c6_300, if_neg c6_301, if_neg c6_302, if_neg c6_303, if_neg c6_304, if_neg c6_305, if_neg c6_400, if_neg c6_401, if_neg c6_402, if_neg c6_403, if_neg c6_404, if_neg c6_405, if_neg c6_406, if_neg c6_407, if_neg c6_500, if_neg c6_501, if_neg c6_502, if_neg c6_503, if_neg c6_504, if_neg c6_505])), ht⟩) (fun _ h9 => absurd h9 List.not_mem_nil) dX11_letterOf_344
  by_cases c6_3 : (nI ((100 * j) + k)) = 3
  · refine lv_lookup (off := 339) (tgt := 345) hx hb dX11_letterOf_6 (by decide) (by rw [c6_3]; decide) (by decide) ?_
    refine lv_bipush (v := 103) hx hb dX11_letterOf_345 (by decide) ?_
    exact W.iret (v := 103) hx hb hr (fun t ht hW => ⟨103, rfl, (by show (103 : Int32) = ftLt (nI (100 * j + k)); first | (rw [c6_0]; rfl) | (rw [c6_1]; rfl) | (rw [c6_2]; rfl) | (rw [c6_3]; rfl) | (rw [c6_4]; rfl) | (rw [c6_5]; rfl) | (rw [c6_100]; rfl) | (rw [c6_101]; rfl) | (rw [c6_102]; rfl) | (rw [c6_103]; rfl) | (rw [c6_104]; rfl) | (rw [c6_105]; rfl) | (rw [c6_106]; rfl) | (rw [c6_107]; rfl) | (rw [c6_108]; rfl) | (rw [c6_109]; rfl) | (rw [c6_110]; rfl) | (rw [c6_200]; rfl) | (rw [c6_201]; rfl) | (rw [c6_202]; rfl) | (rw [c6_300]; rfl) | (rw [c6_301]; rfl) | (rw [c6_302]; rfl) | (rw [c6_303]; rfl) | (rw [c6_304]; rfl) | (rw [c6_305]; rfl) | (rw [c6_400]; rfl) | (rw [c6_401]; rfl) | (rw [c6_402]; rfl) | (rw [c6_403]; rfl) | (rw [c6_404]; rfl) | (rw [c6_405]; rfl) | (rw [c6_406]; rfl) | (rw [c6_407]; rfl) | (rw [c6_500]; rfl) | (rw [c6_501]; rfl) | (rw [c6_502]; rfl) | (rw [c6_503]; rfl) | (rw [c6_504]; rfl) | (rw [c6_505]; rfl) | (unfold ftLt; rw [if_neg c6_0, if_neg c6_1, if_neg c6_2, if_neg c6_3, if_neg c6_4, if_neg c6_5, if_neg c6_100, if_neg c6_101, if_neg c6_102, if_neg c6_103, if_neg c6_104, if_neg c6_105, if_neg c6_106, if_neg c6_107, if_neg c6_108, if_neg c6_109, if_neg c6_110, if_neg c6_200, if_neg c6_201, if_neg c6_202, if_neg c6_300, if_neg c6_301, if_neg c6_302, if_neg c6_303, if_neg c6_304, if_neg c6_305, if_neg c6_400, if_neg c6_401, if_neg c6_402, if_neg c6_403, if_neg c6_404, if_neg c6_405, if_neg c6_406, if_neg c6_407, if_neg c6_500, if_neg c6_501, if_neg c6_502, if_neg c6_503, if_neg c6_504, if_neg c6_505])), ht⟩) (fun _ h9 => absurd h9 List.not_mem_nil) dX11_letterOf_347
  by_cases c6_4 : (nI ((100 * j) + k)) = 4
  · refine lv_lookup (off := 342) (tgt := 348) hx hb dX11_letterOf_6 (by decide) (by rw [c6_4]; decide) (by decide) ?_
    refine lv_bipush (v := 116) hx hb dX11_letterOf_348 (by decide) ?_
    exact W.iret (v := 116) hx hb hr (fun t ht hW => ⟨116, rfl, (by show (116 : Int32) = ftLt (nI (100 * j + k)); first | (rw [c6_0]; rfl) | (rw [c6_1]; rfl) | (rw [c6_2]; rfl) | (rw [c6_3]; rfl) | (rw [c6_4]; rfl) | (rw [c6_5]; rfl) | (rw [c6_100]; rfl) | (rw [c6_101]; rfl) | (rw [c6_102]; rfl) | (rw [c6_103]; rfl) | (rw [c6_104]; rfl) | (rw [c6_105]; rfl) | (rw [c6_106]; rfl) | (rw [c6_107]; rfl) | (rw [c6_108]; rfl) | (rw [c6_109]; rfl) | (rw [c6_110]; rfl) | (rw [c6_200]; rfl) | (rw [c6_201]; rfl) | (rw [c6_202]; rfl) | (rw [c6_300]; rfl) | (rw [c6_301]; rfl) | (rw [c6_302]; rfl) | (rw [c6_303]; rfl) | (rw [c6_304]; rfl) | (rw [c6_305]; rfl) | (rw [c6_400]; rfl) | (rw [c6_401]; rfl) | (rw [c6_402]; rfl) | (rw [c6_403]; rfl) | (rw [c6_404]; rfl) | (rw [c6_405]; rfl) | (rw [c6_406]; rfl) | (rw [c6_407]; rfl) | (rw [c6_500]; rfl) | (rw [c6_501]; rfl) | (rw [c6_502]; rfl) | (rw [c6_503]; rfl) | (rw [c6_504]; rfl) | (rw [c6_505]; rfl) | (unfold ftLt; rw [if_neg c6_0, if_neg c6_1, if_neg c6_2, if_neg c6_3, if_neg c6_4, if_neg c6_5, if_neg c6_100, if_neg c6_101, if_neg c6_102, if_neg c6_103, if_neg c6_104, if_neg c6_105, if_neg c6_106, if_neg c6_107, if_neg c6_108, if_neg c6_109, if_neg c6_110, if_neg c6_200, if_neg c6_201, if_neg c6_202, if_neg c6_300, if_neg c6_301, if_neg c6_302, if_neg c6_303, if_neg c6_304, if_neg c6_305, if_neg c6_400, if_neg c6_401, if_neg c6_402, if_neg c6_403, if_neg c6_404, if_neg c6_405, if_neg c6_406, if_neg c6_407, if_neg c6_500, if_neg c6_501, if_neg c6_502, if_neg c6_503, if_neg c6_504, if_neg c6_505])), ht⟩) (fun _ h9 => absurd h9 List.not_mem_nil) dX11_letterOf_350
  by_cases c6_5 : (nI ((100 * j) + k)) = 5
  · refine lv_lookup (off := 345) (tgt := 351) hx hb dX11_letterOf_6 (by decide) (by rw [c6_5]; decide) (by decide) ?_
    refine lv_bipush (v := 104) hx hb dX11_letterOf_351 (by decide) ?_
    exact W.iret (v := 104) hx hb hr (fun t ht hW => ⟨104, rfl, (by show (104 : Int32) = ftLt (nI (100 * j + k)); first | (rw [c6_0]; rfl) | (rw [c6_1]; rfl) | (rw [c6_2]; rfl) | (rw [c6_3]; rfl) | (rw [c6_4]; rfl) | (rw [c6_5]; rfl) | (rw [c6_100]; rfl) | (rw [c6_101]; rfl) | (rw [c6_102]; rfl) | (rw [c6_103]; rfl) | (rw [c6_104]; rfl) | (rw [c6_105]; rfl) | (rw [c6_106]; rfl) | (rw [c6_107]; rfl) | (rw [c6_108]; rfl) | (rw [c6_109]; rfl) | (rw [c6_110]; rfl) | (rw [c6_200]; rfl) | (rw [c6_201]; rfl) | (rw [c6_202]; rfl) | (rw [c6_300]; rfl) | (rw [c6_301]; rfl) | (rw [c6_302]; rfl) | (rw [c6_303]; rfl) | (rw [c6_304]; rfl) | (rw [c6_305]; rfl) | (rw [c6_400]; rfl) | (rw [c6_401]; rfl) | (rw [c6_402]; rfl) | (rw [c6_403]; rfl) | (rw [c6_404]; rfl) | (rw [c6_405]; rfl) | (rw [c6_406]; rfl) | (rw [c6_407]; rfl) | (rw [c6_500]; rfl) | (rw [c6_501]; rfl) | (rw [c6_502]; rfl) | (rw [c6_503]; rfl) | (rw [c6_504]; rfl) | (rw [c6_505]; rfl) | (unfold ftLt; rw [if_neg c6_0, if_neg c6_1, if_neg c6_2, if_neg c6_3, if_neg c6_4, if_neg c6_5, if_neg c6_100, if_neg c6_101, if_neg c6_102, if_neg c6_103, if_neg c6_104, if_neg c6_105, if_neg c6_106, if_neg c6_107, if_neg c6_108, if_neg c6_109, if_neg c6_110, if_neg c6_200, if_neg c6_201, if_neg c6_202, if_neg c6_300, if_neg c6_301, if_neg c6_302, if_neg c6_303, if_neg c6_304, if_neg c6_305, if_neg c6_400, if_neg c6_401, if_neg c6_402, if_neg c6_403, if_neg c6_404, if_neg c6_405, if_neg c6_406, if_neg c6_407, if_neg c6_500, if_neg c6_501, if_neg c6_502, if_neg c6_503, if_neg c6_504, if_neg c6_505])), ht⟩) (fun _ h9 => absurd h9 List.not_mem_nil) dX11_letterOf_353
  by_cases c6_100 : (nI ((100 * j) + k)) = 100
  · refine lv_lookup (off := 348) (tgt := 354) hx hb dX11_letterOf_6 (by decide) (by rw [c6_100]; decide) (by decide) ?_
    refine lv_bipush (v := 97) hx hb dX11_letterOf_354 (by decide) ?_
    exact W.iret (v := 97) hx hb hr (fun t ht hW => ⟨97, rfl, (by show (97 : Int32) = ftLt (nI (100 * j + k)); first | (rw [c6_0]; rfl) | (rw [c6_1]; rfl) | (rw [c6_2]; rfl) | (rw [c6_3]; rfl) | (rw [c6_4]; rfl) | (rw [c6_5]; rfl) | (rw [c6_100]; rfl) | (rw [c6_101]; rfl) | (rw [c6_102]; rfl) | (rw [c6_103]; rfl) | (rw [c6_104]; rfl) | (rw [c6_105]; rfl) | (rw [c6_106]; rfl) | (rw [c6_107]; rfl) | (rw [c6_108]; rfl) | (rw [c6_109]; rfl) | (rw [c6_110]; rfl) | (rw [c6_200]; rfl) | (rw [c6_201]; rfl) | (rw [c6_202]; rfl) | (rw [c6_300]; rfl) | (rw [c6_301]; rfl) | (rw [c6_302]; rfl) | (rw [c6_303]; rfl) | (rw [c6_304]; rfl) | (rw [c6_305]; rfl) | (rw [c6_400]; rfl) | (rw [c6_401]; rfl) | (rw [c6_402]; rfl) | (rw [c6_403]; rfl) | (rw [c6_404]; rfl) | (rw [c6_405]; rfl) | (rw [c6_406]; rfl) | (rw [c6_407]; rfl) | (rw [c6_500]; rfl) | (rw [c6_501]; rfl) | (rw [c6_502]; rfl) | (rw [c6_503]; rfl) | (rw [c6_504]; rfl) | (rw [c6_505]; rfl) | (unfold ftLt; rw [if_neg c6_0, if_neg c6_1, if_neg c6_2, if_neg c6_3, if_neg c6_4, if_neg c6_5, if_neg c6_100, if_neg c6_101, if_neg c6_102, if_neg c6_103, if_neg c6_104, if_neg c6_105, if_neg c6_106, if_neg c6_107, if_neg c6_108, if_neg c6_109, if_neg c6_110, if_neg c6_200, if_neg c6_201, if_neg c6_202, if_neg c6_300, if_neg c6_301, if_neg c6_302, if_neg c6_303, if_neg c6_304, if_neg c6_305, if_neg c6_400, if_neg c6_401, if_neg c6_402, if_neg c6_403, if_neg c6_404, if_neg c6_405, if_neg c6_406, if_neg c6_407, if_neg c6_500, if_neg c6_501, if_neg c6_502, if_neg c6_503, if_neg c6_504, if_neg c6_505])), ht⟩) (fun _ h9 => absurd h9 List.not_mem_nil) dX11_letterOf_356
  by_cases c6_101 : (nI ((100 * j) + k)) = 101
  · refine lv_lookup (off := 342) (tgt := 348) hx hb dX11_letterOf_6 (by decide) (by rw [c6_101]; decide) (by decide) ?_
    refine lv_bipush (v := 116) hx hb dX11_letterOf_348 (by decide) ?_
    exact W.iret (v := 116) hx hb hr (fun t ht hW => ⟨116, rfl, (by show (116 : Int32) = ftLt (nI (100 * j + k)); first | (rw [c6_0]; rfl) | (rw [c6_1]; rfl) | (rw [c6_2]; rfl) | (rw [c6_3]; rfl) | (rw [c6_4]; rfl) | (rw [c6_5]; rfl) | (rw [c6_100]; rfl) | (rw [c6_101]; rfl) | (rw [c6_102]; rfl) | (rw [c6_103]; rfl) | (rw [c6_104]; rfl) | (rw [c6_105]; rfl) | (rw [c6_106]; rfl) | (rw [c6_107]; rfl) | (rw [c6_108]; rfl) | (rw [c6_109]; rfl) | (rw [c6_110]; rfl) | (rw [c6_200]; rfl) | (rw [c6_201]; rfl) | (rw [c6_202]; rfl) | (rw [c6_300]; rfl) | (rw [c6_301]; rfl) | (rw [c6_302]; rfl) | (rw [c6_303]; rfl) | (rw [c6_304]; rfl) | (rw [c6_305]; rfl) | (rw [c6_400]; rfl) | (rw [c6_401]; rfl) | (rw [c6_402]; rfl) | (rw [c6_403]; rfl) | (rw [c6_404]; rfl) | (rw [c6_405]; rfl) | (rw [c6_406]; rfl) | (rw [c6_407]; rfl) | (rw [c6_500]; rfl) | (rw [c6_501]; rfl) | (rw [c6_502]; rfl) | (rw [c6_503]; rfl) | (rw [c6_504]; rfl) | (rw [c6_505]; rfl) | (unfold ftLt; rw [if_neg c6_0, if_neg c6_1, if_neg c6_2, if_neg c6_3, if_neg c6_4, if_neg c6_5, if_neg c6_100, if_neg c6_101, if_neg c6_102, if_neg c6_103, if_neg c6_104, if_neg c6_105, if_neg c6_106, if_neg c6_107, if_neg c6_108, if_neg c6_109, if_neg c6_110, if_neg c6_200, if_neg c6_201, if_neg c6_202, if_neg c6_300, if_neg c6_301, if_neg c6_302, if_neg c6_303, if_neg c6_304, if_neg c6_305, if_neg c6_400, if_neg c6_401, if_neg c6_402, if_neg c6_403, if_neg c6_404, if_neg c6_405, if_neg c6_406, if_neg c6_407, if_neg c6_500, if_neg c6_501, if_neg c6_502, if_neg c6_503, if_neg c6_504, if_neg c6_505])), ht⟩) (fun _ h9 => absurd h9 List.not_mem_nil) dX11_letterOf_350
  by_cases c6_102 : (nI ((100 * j) + k)) = 102
  · refine lv_lookup (off := 342) (tgt := 348) hx hb dX11_letterOf_6 (by decide) (by rw [c6_102]; decide) (by decide) ?_
    refine lv_bipush (v := 116) hx hb dX11_letterOf_348 (by decide) ?_
    exact W.iret (v := 116) hx hb hr (fun t ht hW => ⟨116, rfl, (by show (116 : Int32) = ftLt (nI (100 * j + k)); first | (rw [c6_0]; rfl) | (rw [c6_1]; rfl) | (rw [c6_2]; rfl) | (rw [c6_3]; rfl) | (rw [c6_4]; rfl) | (rw [c6_5]; rfl) | (rw [c6_100]; rfl) | (rw [c6_101]; rfl) | (rw [c6_102]; rfl) | (rw [c6_103]; rfl) | (rw [c6_104]; rfl) | (rw [c6_105]; rfl) | (rw [c6_106]; rfl) | (rw [c6_107]; rfl) | (rw [c6_108]; rfl) | (rw [c6_109]; rfl) | (rw [c6_110]; rfl) | (rw [c6_200]; rfl) | (rw [c6_201]; rfl) | (rw [c6_202]; rfl) | (rw [c6_300]; rfl) | (rw [c6_301]; rfl) | (rw [c6_302]; rfl) | (rw [c6_303]; rfl) | (rw [c6_304]; rfl) | (rw [c6_305]; rfl) | (rw [c6_400]; rfl) | (rw [c6_401]; rfl) | (rw [c6_402]; rfl) | (rw [c6_403]; rfl) | (rw [c6_404]; rfl) | (rw [c6_405]; rfl) | (rw [c6_406]; rfl) | (rw [c6_407]; rfl) | (rw [c6_500]; rfl) | (rw [c6_501]; rfl) | (rw [c6_502]; rfl) | (rw [c6_503]; rfl) | (rw [c6_504]; rfl) | (rw [c6_505]; rfl) | (unfold ftLt; rw [if_neg c6_0, if_neg c6_1, if_neg c6_2, if_neg c6_3, if_neg c6_4, if_neg c6_5, if_neg c6_100, if_neg c6_101, if_neg c6_102, if_neg c6_103, if_neg c6_104, if_neg c6_105, if_neg c6_106, if_neg c6_107, if_neg c6_108, if_neg c6_109, if_neg c6_110, if_neg c6_200, if_neg c6_201, if_neg c6_202, if_neg c6_300, if_neg c6_301, if_neg c6_302, if_neg c6_303, if_neg c6_304, if_neg c6_305, if_neg c6_400, if_neg c6_401, if_neg c6_402, if_neg c6_403, if_neg c6_404, if_neg c6_405, if_neg c6_406, if_neg c6_407, if_neg c6_500, if_neg c6_501, if_neg c6_502, if_neg c6_503, if_neg c6_504, if_neg c6_505])), ht⟩) (fun _ h9 => absurd h9 List.not_mem_nil) dX11_letterOf_350
  by_cases c6_103 : (nI ((100 * j) + k)) = 103
  · refine lv_lookup (off := 333) (tgt := 339) hx hb dX11_letterOf_6 (by decide) (by rw [c6_103]; decide) (by decide) ?_
    refine lv_bipush (v := 101) hx hb dX11_letterOf_339 (by decide) ?_
    exact W.iret (v := 101) hx hb hr (fun t ht hW => ⟨101, rfl, (by show (101 : Int32) = ftLt (nI (100 * j + k)); first | (rw [c6_0]; rfl) | (rw [c6_1]; rfl) | (rw [c6_2]; rfl) | (rw [c6_3]; rfl) | (rw [c6_4]; rfl) | (rw [c6_5]; rfl) | (rw [c6_100]; rfl) | (rw [c6_101]; rfl) | (rw [c6_102]; rfl) | (rw [c6_103]; rfl) | (rw [c6_104]; rfl) | (rw [c6_105]; rfl) | (rw [c6_106]; rfl) | (rw [c6_107]; rfl) | (rw [c6_108]; rfl) | (rw [c6_109]; rfl) | (rw [c6_110]; rfl) | (rw [c6_200]; rfl) | (rw [c6_201]; rfl) | (rw [c6_202]; rfl) | (rw [c6_300]; rfl) | (rw [c6_301]; rfl) | (rw [c6_302]; rfl) | (rw [c6_303]; rfl) | (rw [c6_304]; rfl) | (rw [c6_305]; rfl) | (rw [c6_400]; rfl) | (rw [c6_401]; rfl) | (rw [c6_402]; rfl) | (rw [c6_403]; rfl) | (rw [c6_404]; rfl) | (rw [c6_405]; rfl) | (rw [c6_406]; rfl) | (rw [c6_407]; rfl) | (rw [c6_500]; rfl) | (rw [c6_501]; rfl) | (rw [c6_502]; rfl) | (rw [c6_503]; rfl) | (rw [c6_504]; rfl) | (rw [c6_505]; rfl) | (unfold ftLt; rw [if_neg c6_0, if_neg c6_1, if_neg c6_2, if_neg c6_3, if_neg c6_4, if_neg c6_5, if_neg c6_100, if_neg c6_101, if_neg c6_102, if_neg c6_103, if_neg c6_104, if_neg c6_105, if_neg c6_106, if_neg c6_107, if_neg c6_108, if_neg c6_109, if_neg c6_110, if_neg c6_200, if_neg c6_201, if_neg c6_202, if_neg c6_300, if_neg c6_301, if_neg c6_302, if_neg c6_303, if_neg c6_304, if_neg c6_305, if_neg c6_400, if_neg c6_401, if_neg c6_402, if_neg c6_403, if_neg c6_404, if_neg c6_405, if_neg c6_406, if_neg c6_407, if_neg c6_500, if_neg c6_501, if_neg c6_502, if_neg c6_503, if_neg c6_504, if_neg c6_505])), ht⟩) (fun _ h9 => absurd h9 List.not_mem_nil) dX11_letterOf_341
  by_cases c6_104 : (nI ((100 * j) + k)) = 104
  · refine lv_lookup (off := 336) (tgt := 342) hx hb dX11_letterOf_6 (by decide) (by rw [c6_104]; decide) (by decide) ?_
    refine lv_bipush (v := 110) hx hb dX11_letterOf_342 (by decide) ?_
    exact W.iret (v := 110) hx hb hr (fun t ht hW => ⟨110, rfl, (by show (110 : Int32) = ftLt (nI (100 * j + k)); first | (rw [c6_0]; rfl) | (rw [c6_1]; rfl) | (rw [c6_2]; rfl) | (rw [c6_3]; rfl) | (rw [c6_4]; rfl) | (rw [c6_5]; rfl) | (rw [c6_100]; rfl) | (rw [c6_101]; rfl) | (rw [c6_102]; rfl) | (rw [c6_103]; rfl) | (rw [c6_104]; rfl) | (rw [c6_105]; rfl) | (rw [c6_106]; rfl) | (rw [c6_107]; rfl) | (rw [c6_108]; rfl) | (rw [c6_109]; rfl) | (rw [c6_110]; rfl) | (rw [c6_200]; rfl) | (rw [c6_201]; rfl) | (rw [c6_202]; rfl) | (rw [c6_300]; rfl) | (rw [c6_301]; rfl) | (rw [c6_302]; rfl) | (rw [c6_303]; rfl) | (rw [c6_304]; rfl) | (rw [c6_305]; rfl) | (rw [c6_400]; rfl) | (rw [c6_401]; rfl) | (rw [c6_402]; rfl) | (rw [c6_403]; rfl) | (rw [c6_404]; rfl) | (rw [c6_405]; rfl) | (rw [c6_406]; rfl) | (rw [c6_407]; rfl) | (rw [c6_500]; rfl) | (rw [c6_501]; rfl) | (rw [c6_502]; rfl) | (rw [c6_503]; rfl) | (rw [c6_504]; rfl) | (rw [c6_505]; rfl) | (unfold ftLt; rw [if_neg c6_0, if_neg c6_1, if_neg c6_2, if_neg c6_3, if_neg c6_4, if_neg c6_5, if_neg c6_100, if_neg c6_101, if_neg c6_102, if_neg c6_103, if_neg c6_104, if_neg c6_105, if_neg c6_106, if_neg c6_107, if_neg c6_108, if_neg c6_109, if_neg c6_110, if_neg c6_200, if_neg c6_201, if_neg c6_202, if_neg c6_300, if_neg c6_301, if_neg c6_302, if_neg c6_303, if_neg c6_304, if_neg c6_305, if_neg c6_400, if_neg c6_401, if_neg c6_402, if_neg c6_403, if_neg c6_404, if_neg c6_405, if_neg c6_406, if_neg c6_407, if_neg c6_500, if_neg c6_501, if_neg c6_502, if_neg c6_503, if_neg c6_504, if_neg c6_505])), ht⟩) (fun _ h9 => absurd h9 List.not_mem_nil) dX11_letterOf_344
  by_cases c6_105 : (nI ((100 * j) + k)) = 105
  · refine lv_lookup (off := 351) (tgt := 357) hx hb dX11_letterOf_6 (by decide) (by rw [c6_105]; decide) (by decide) ?_
    refine lv_bipush (v := 117) hx hb dX11_letterOf_357 (by decide) ?_
    exact W.iret (v := 117) hx hb hr (fun t ht hW => ⟨117, rfl, (by show (117 : Int32) = ftLt (nI (100 * j + k)); first | (rw [c6_0]; rfl) | (rw [c6_1]; rfl) | (rw [c6_2]; rfl) | (rw [c6_3]; rfl) | (rw [c6_4]; rfl) | (rw [c6_5]; rfl) | (rw [c6_100]; rfl) | (rw [c6_101]; rfl) | (rw [c6_102]; rfl) | (rw [c6_103]; rfl) | (rw [c6_104]; rfl) | (rw [c6_105]; rfl) | (rw [c6_106]; rfl) | (rw [c6_107]; rfl) | (rw [c6_108]; rfl) | (rw [c6_109]; rfl) | (rw [c6_110]; rfl) | (rw [c6_200]; rfl) | (rw [c6_201]; rfl) | (rw [c6_202]; rfl) | (rw [c6_300]; rfl) | (rw [c6_301]; rfl) | (rw [c6_302]; rfl) | (rw [c6_303]; rfl) | (rw [c6_304]; rfl) | (rw [c6_305]; rfl) | (rw [c6_400]; rfl) | (rw [c6_401]; rfl) | (rw [c6_402]; rfl) | (rw [c6_403]; rfl) | (rw [c6_404]; rfl) | (rw [c6_405]; rfl) | (rw [c6_406]; rfl) | (rw [c6_407]; rfl) | (rw [c6_500]; rfl) | (rw [c6_501]; rfl) | (rw [c6_502]; rfl) | (rw [c6_503]; rfl) | (rw [c6_504]; rfl) | (rw [c6_505]; rfl) | (unfold ftLt; rw [if_neg c6_0, if_neg c6_1, if_neg c6_2, if_neg c6_3, if_neg c6_4, if_neg c6_5, if_neg c6_100, if_neg c6_101, if_neg c6_102, if_neg c6_103, if_neg c6_104, if_neg c6_105, if_neg c6_106, if_neg c6_107, if_neg c6_108, if_neg c6_109, if_neg c6_110, if_neg c6_200, if_neg c6_201, if_neg c6_202, if_neg c6_300, if_neg c6_301, if_neg c6_302, if_neg c6_303, if_neg c6_304, if_neg c6_305, if_neg c6_400, if_neg c6_401, if_neg c6_402, if_neg c6_403, if_neg c6_404, if_neg c6_405, if_neg c6_406, if_neg c6_407, if_neg c6_500, if_neg c6_501, if_neg c6_502, if_neg c6_503, if_neg c6_504, if_neg c6_505])), ht⟩) (fun _ h9 => absurd h9 List.not_mem_nil) dX11_letterOf_359
  by_cases c6_106 : (nI ((100 * j) + k)) = 106
  · refine lv_lookup (off := 348) (tgt := 354) hx hb dX11_letterOf_6 (by decide) (by rw [c6_106]; decide) (by decide) ?_
    refine lv_bipush (v := 97) hx hb dX11_letterOf_354 (by decide) ?_
    exact W.iret (v := 97) hx hb hr (fun t ht hW => ⟨97, rfl, (by show (97 : Int32) = ftLt (nI (100 * j + k)); first | (rw [c6_0]; rfl) | (rw [c6_1]; rfl) | (rw [c6_2]; rfl) | (rw [c6_3]; rfl) | (rw [c6_4]; rfl) | (rw [c6_5]; rfl) | (rw [c6_100]; rfl) | (rw [c6_101]; rfl) | (rw [c6_102]; rfl) | (rw [c6_103]; rfl) | (rw [c6_104]; rfl) | (rw [c6_105]; rfl) | (rw [c6_106]; rfl) | (rw [c6_107]; rfl) | (rw [c6_108]; rfl) | (rw [c6_109]; rfl) | (rw [c6_110]; rfl) | (rw [c6_200]; rfl) | (rw [c6_201]; rfl) | (rw [c6_202]; rfl) | (rw [c6_300]; rfl) | (rw [c6_301]; rfl) | (rw [c6_302]; rfl) | (rw [c6_303]; rfl) | (rw [c6_304]; rfl) | (rw [c6_305]; rfl) | (rw [c6_400]; rfl) | (rw [c6_401]; rfl) | (rw [c6_402]; rfl) | (rw [c6_403]; rfl) | (rw [c6_404]; rfl) | (rw [c6_405]; rfl) | (rw [c6_406]; rfl) | (rw [c6_407]; rfl) | (rw [c6_500]; rfl) | (rw [c6_501]; rfl) | (rw [c6_502]; rfl) | (rw [c6_503]; rfl) | (rw [c6_504]; rfl) | (rw [c6_505]; rfl) | (unfold ftLt; rw [if_neg c6_0, if_neg c6_1, if_neg c6_2, if_neg c6_3, if_neg c6_4, if_neg c6_5, if_neg c6_100, if_neg c6_101, if_neg c6_102, if_neg c6_103, if_neg c6_104, if_neg c6_105, if_neg c6_106, if_neg c6_107, if_neg c6_108, if_neg c6_109, if_neg c6_110, if_neg c6_200, if_neg c6_201, if_neg c6_202, if_neg c6_300, if_neg c6_301, if_neg c6_302, if_neg c6_303, if_neg c6_304, if_neg c6_305, if_neg c6_400, if_neg c6_401, if_neg c6_402, if_neg c6_403, if_neg c6_404, if_neg c6_405, if_neg c6_406, if_neg c6_407, if_neg c6_500, if_neg c6_501, if_neg c6_502, if_neg c6_503, if_neg c6_504, if_neg c6_505])), ht⟩) (fun _ h9 => absurd h9 List.not_mem_nil) dX11_letterOf_356
  by_cases c6_107 : (nI ((100 * j) + k)) = 107
  · refine lv_lookup (off := 342) (tgt := 348) hx hb dX11_letterOf_6 (by decide) (by rw [c6_107]; decide) (by decide) ?_
    refine lv_bipush (v := 116) hx hb dX11_letterOf_348 (by decide) ?_
    exact W.iret (v := 116) hx hb hr (fun t ht hW => ⟨116, rfl, (by show (116 : Int32) = ftLt (nI (100 * j + k)); first | (rw [c6_0]; rfl) | (rw [c6_1]; rfl) | (rw [c6_2]; rfl) | (rw [c6_3]; rfl) | (rw [c6_4]; rfl) | (rw [c6_5]; rfl) | (rw [c6_100]; rfl) | (rw [c6_101]; rfl) | (rw [c6_102]; rfl) | (rw [c6_103]; rfl) | (rw [c6_104]; rfl) | (rw [c6_105]; rfl) | (rw [c6_106]; rfl) | (rw [c6_107]; rfl) | (rw [c6_108]; rfl) | (rw [c6_109]; rfl) | (rw [c6_110]; rfl) | (rw [c6_200]; rfl) | (rw [c6_201]; rfl) | (rw [c6_202]; rfl) | (rw [c6_300]; rfl) | (rw [c6_301]; rfl) | (rw [c6_302]; rfl) | (rw [c6_303]; rfl) | (rw [c6_304]; rfl) | (rw [c6_305]; rfl) | (rw [c6_400]; rfl) | (rw [c6_401]; rfl) | (rw [c6_402]; rfl) | (rw [c6_403]; rfl) | (rw [c6_404]; rfl) | (rw [c6_405]; rfl) | (rw [c6_406]; rfl) | (rw [c6_407]; rfl) | (rw [c6_500]; rfl) | (rw [c6_501]; rfl) | (rw [c6_502]; rfl) | (rw [c6_503]; rfl) | (rw [c6_504]; rfl) | (rw [c6_505]; rfl) | (unfold ftLt; rw [if_neg c6_0, if_neg c6_1, if_neg c6_2, if_neg c6_3, if_neg c6_4, if_neg c6_5, if_neg c6_100, if_neg c6_101, if_neg c6_102, if_neg c6_103, if_neg c6_104, if_neg c6_105, if_neg c6_106, if_neg c6_107, if_neg c6_108, if_neg c6_109, if_neg c6_110, if_neg c6_200, if_neg c6_201, if_neg c6_202, if_neg c6_300, if_neg c6_301, if_neg c6_302, if_neg c6_303, if_neg c6_304, if_neg c6_305, if_neg c6_400, if_neg c6_401, if_neg c6_402, if_neg c6_403, if_neg c6_404, if_neg c6_405, if_neg c6_406, if_neg c6_407, if_neg c6_500, if_neg c6_501, if_neg c6_502, if_neg c6_503, if_neg c6_504, if_neg c6_505])), ht⟩) (fun _ h9 => absurd h9 List.not_mem_nil) dX11_letterOf_350
  by_cases c6_108 : (nI ((100 * j) + k)) = 108
  · refine lv_lookup (off := 354) (tgt := 360) hx hb dX11_letterOf_6 (by decide) (by rw [c6_108]; decide) (by decide) ?_
    refine lv_bipush (v := 105) hx hb dX11_letterOf_360 (by decide) ?_
    exact W.iret (v := 105) hx hb hr (fun t ht hW => ⟨105, rfl, (by show (105 : Int32) = ftLt (nI (100 * j + k)); first | (rw [c6_0]; rfl) | (rw [c6_1]; rfl) | (rw [c6_2]; rfl) | (rw [c6_3]; rfl) | (rw [c6_4]; rfl) | (rw [c6_5]; rfl) | (rw [c6_100]; rfl) | (rw [c6_101]; rfl) | (rw [c6_102]; rfl) | (rw [c6_103]; rfl) | (rw [c6_104]; rfl) | (rw [c6_105]; rfl) | (rw [c6_106]; rfl) | (rw [c6_107]; rfl) | (rw [c6_108]; rfl) | (rw [c6_109]; rfl) | (rw [c6_110]; rfl) | (rw [c6_200]; rfl) | (rw [c6_201]; rfl) | (rw [c6_202]; rfl) | (rw [c6_300]; rfl) | (rw [c6_301]; rfl) | (rw [c6_302]; rfl) | (rw [c6_303]; rfl) | (rw [c6_304]; rfl) | (rw [c6_305]; rfl) | (rw [c6_400]; rfl) | (rw [c6_401]; rfl) | (rw [c6_402]; rfl) | (rw [c6_403]; rfl) | (rw [c6_404]; rfl) | (rw [c6_405]; rfl) | (rw [c6_406]; rfl) | (rw [c6_407]; rfl) | (rw [c6_500]; rfl) | (rw [c6_501]; rfl) | (rw [c6_502]; rfl) | (rw [c6_503]; rfl) | (rw [c6_504]; rfl) | (rw [c6_505]; rfl) | (unfold ftLt; rw [if_neg c6_0, if_neg c6_1, if_neg c6_2, if_neg c6_3, if_neg c6_4, if_neg c6_5, if_neg c6_100, if_neg c6_101, if_neg c6_102, if_neg c6_103, if_neg c6_104, if_neg c6_105, if_neg c6_106, if_neg c6_107, if_neg c6_108, if_neg c6_109, if_neg c6_110, if_neg c6_200, if_neg c6_201, if_neg c6_202, if_neg c6_300, if_neg c6_301, if_neg c6_302, if_neg c6_303, if_neg c6_304, if_neg c6_305, if_neg c6_400, if_neg c6_401, if_neg c6_402, if_neg c6_403, if_neg c6_404, if_neg c6_405, if_neg c6_406, if_neg c6_407, if_neg c6_500, if_neg c6_501, if_neg c6_502, if_neg c6_503, if_neg c6_504, if_neg c6_505])), ht⟩) (fun _ h9 => absurd h9 List.not_mem_nil) dX11_letterOf_362
  by_cases c6_109 : (nI ((100 * j) + k)) = 109
  · refine lv_lookup (off := 357) (tgt := 363) hx hb dX11_letterOf_6 (by decide) (by rw [c6_109]; decide) (by decide) ?_
    refine lv_bipush (v := 111) hx hb dX11_letterOf_363 (by decide) ?_
    exact W.iret (v := 111) hx hb hr (fun t ht hW => ⟨111, rfl, (by show (111 : Int32) = ftLt (nI (100 * j + k)); first | (rw [c6_0]; rfl) | (rw [c6_1]; rfl) | (rw [c6_2]; rfl) | (rw [c6_3]; rfl) | (rw [c6_4]; rfl) | (rw [c6_5]; rfl) | (rw [c6_100]; rfl) | (rw [c6_101]; rfl) | (rw [c6_102]; rfl) | (rw [c6_103]; rfl) | (rw [c6_104]; rfl) | (rw [c6_105]; rfl) | (rw [c6_106]; rfl) | (rw [c6_107]; rfl) | (rw [c6_108]; rfl) | (rw [c6_109]; rfl) | (rw [c6_110]; rfl) | (rw [c6_200]; rfl) | (rw [c6_201]; rfl) | (rw [c6_202]; rfl) | (rw [c6_300]; rfl) | (rw [c6_301]; rfl) | (rw [c6_302]; rfl) | (rw [c6_303]; rfl) | (rw [c6_304]; rfl) | (rw [c6_305]; rfl) | (rw [c6_400]; rfl) | (rw [c6_401]; rfl) | (rw [c6_402]; rfl) | (rw [c6_403]; rfl) | (rw [c6_404]; rfl) | (rw [c6_405]; rfl) | (rw [c6_406]; rfl) | (rw [c6_407]; rfl) | (rw [c6_500]; rfl) | (rw [c6_501]; rfl) | (rw [c6_502]; rfl) | (rw [c6_503]; rfl) | (rw [c6_504]; rfl) | (rw [c6_505]; rfl) | (unfold ftLt; rw [if_neg c6_0, if_neg c6_1, if_neg c6_2, if_neg c6_3, if_neg c6_4, if_neg c6_5, if_neg c6_100, if_neg c6_101, if_neg c6_102, if_neg c6_103, if_neg c6_104, if_neg c6_105, if_neg c6_106, if_neg c6_107, if_neg c6_108, if_neg c6_109, if_neg c6_110, if_neg c6_200, if_neg c6_201, if_neg c6_202, if_neg c6_300, if_neg c6_301, if_neg c6_302, if_neg c6_303, if_neg c6_304, if_neg c6_305, if_neg c6_400, if_neg c6_401, if_neg c6_402, if_neg c6_403, if_neg c6_404, if_neg c6_405, if_neg c6_406, if_neg c6_407, if_neg c6_500, if_neg c6_501, if_neg c6_502, if_neg c6_503, if_neg c6_504, if_neg c6_505])), ht⟩) (fun _ h9 => absurd h9 List.not_mem_nil) dX11_letterOf_365
  by_cases c6_110 : (nI ((100 * j) + k)) = 110
  · refine lv_lookup (off := 336) (tgt := 342) hx hb dX11_letterOf_6 (by decide) (by rw [c6_110]; decide) (by decide) ?_
    refine lv_bipush (v := 110) hx hb dX11_letterOf_342 (by decide) ?_
    exact W.iret (v := 110) hx hb hr (fun t ht hW => ⟨110, rfl, (by show (110 : Int32) = ftLt (nI (100 * j + k)); first | (rw [c6_0]; rfl) | (rw [c6_1]; rfl) | (rw [c6_2]; rfl) | (rw [c6_3]; rfl) | (rw [c6_4]; rfl) | (rw [c6_5]; rfl) | (rw [c6_100]; rfl) | (rw [c6_101]; rfl) | (rw [c6_102]; rfl) | (rw [c6_103]; rfl) | (rw [c6_104]; rfl) | (rw [c6_105]; rfl) | (rw [c6_106]; rfl) | (rw [c6_107]; rfl) | (rw [c6_108]; rfl) | (rw [c6_109]; rfl) | (rw [c6_110]; rfl) | (rw [c6_200]; rfl) | (rw [c6_201]; rfl) | (rw [c6_202]; rfl) | (rw [c6_300]; rfl) | (rw [c6_301]; rfl) | (rw [c6_302]; rfl) | (rw [c6_303]; rfl) | (rw [c6_304]; rfl) | (rw [c6_305]; rfl) | (rw [c6_400]; rfl) | (rw [c6_401]; rfl) | (rw [c6_402]; rfl) | (rw [c6_403]; rfl) | (rw [c6_404]; rfl) | (rw [c6_405]; rfl) | (rw [c6_406]; rfl) | (rw [c6_407]; rfl) | (rw [c6_500]; rfl) | (rw [c6_501]; rfl) | (rw [c6_502]; rfl) | (rw [c6_503]; rfl) | (rw [c6_504]; rfl) | (rw [c6_505]; rfl) | (unfold ftLt; rw [if_neg c6_0, if_neg c6_1, if_neg c6_2, if_neg c6_3, if_neg c6_4, if_neg c6_5, if_neg c6_100, if_neg c6_101, if_neg c6_102, if_neg c6_103, if_neg c6_104, if_neg c6_105, if_neg c6_106, if_neg c6_107, if_neg c6_108, if_neg c6_109, if_neg c6_110, if_neg c6_200, if_neg c6_201, if_neg c6_202, if_neg c6_300, if_neg c6_301, if_neg c6_302, if_neg c6_303, if_neg c6_304, if_neg c6_305, if_neg c6_400, if_neg c6_401, if_neg c6_402, if_neg c6_403, if_neg c6_404, if_neg c6_405, if_neg c6_406, if_neg c6_407, if_neg c6_500, if_neg c6_501, if_neg c6_502, if_neg c6_503, if_neg c6_504, if_neg c6_505])), ht⟩) (fun _ h9 => absurd h9 List.not_mem_nil) dX11_letterOf_344
  by_cases c6_200 : (nI ((100 * j) + k)) = 200
  · refine lv_lookup (off := 333) (tgt := 339) hx hb dX11_letterOf_6 (by decide) (by rw [c6_200]; decide) (by decide) ?_
    refine lv_bipush (v := 101) hx hb dX11_letterOf_339 (by decide) ?_
    exact W.iret (v := 101) hx hb hr (fun t ht hW => ⟨101, rfl, (by show (101 : Int32) = ftLt (nI (100 * j + k)); first | (rw [c6_0]; rfl) | (rw [c6_1]; rfl) | (rw [c6_2]; rfl) | (rw [c6_3]; rfl) | (rw [c6_4]; rfl) | (rw [c6_5]; rfl) | (rw [c6_100]; rfl) | (rw [c6_101]; rfl) | (rw [c6_102]; rfl) | (rw [c6_103]; rfl) | (rw [c6_104]; rfl) | (rw [c6_105]; rfl) | (rw [c6_106]; rfl) | (rw [c6_107]; rfl) | (rw [c6_108]; rfl) | (rw [c6_109]; rfl) | (rw [c6_110]; rfl) | (rw [c6_200]; rfl) | (rw [c6_201]; rfl) | (rw [c6_202]; rfl) | (rw [c6_300]; rfl) | (rw [c6_301]; rfl) | (rw [c6_302]; rfl) | (rw [c6_303]; rfl) | (rw [c6_304]; rfl) | (rw [c6_305]; rfl) | (rw [c6_400]; rfl) | (rw [c6_401]; rfl) | (rw [c6_402]; rfl) | (rw [c6_403]; rfl) | (rw [c6_404]; rfl) | (rw [c6_405]; rfl) | (rw [c6_406]; rfl) | (rw [c6_407]; rfl) | (rw [c6_500]; rfl) | (rw [c6_501]; rfl) | (rw [c6_502]; rfl) | (rw [c6_503]; rfl) | (rw [c6_504]; rfl) | (rw [c6_505]; rfl) | (unfold ftLt; rw [if_neg c6_0, if_neg c6_1, if_neg c6_2, if_neg c6_3, if_neg c6_4, if_neg c6_5, if_neg c6_100, if_neg c6_101, if_neg c6_102, if_neg c6_103, if_neg c6_104, if_neg c6_105, if_neg c6_106, if_neg c6_107, if_neg c6_108, if_neg c6_109, if_neg c6_110, if_neg c6_200, if_neg c6_201, if_neg c6_202, if_neg c6_300, if_neg c6_301, if_neg c6_302, if_neg c6_303, if_neg c6_304, if_neg c6_305, if_neg c6_400, if_neg c6_401, if_neg c6_402, if_neg c6_403, if_neg c6_404, if_neg c6_405, if_neg c6_406, if_neg c6_407, if_neg c6_500, if_neg c6_501, if_neg c6_502, if_neg c6_503, if_neg c6_504, if_neg c6_505])), ht⟩) (fun _ h9 => absurd h9 List.not_mem_nil) dX11_letterOf_341
  by_cases c6_201 : (nI ((100 * j) + k)) = 201
  · refine lv_lookup (off := 336) (tgt := 342) hx hb dX11_letterOf_6 (by decide) (by rw [c6_201]; decide) (by decide) ?_
    refine lv_bipush (v := 110) hx hb dX11_letterOf_342 (by decide) ?_
    exact W.iret (v := 110) hx hb hr (fun t ht hW => ⟨110, rfl, (by show (110 : Int32) = ftLt (nI (100 * j + k)); first | (rw [c6_0]; rfl) | (rw [c6_1]; rfl) | (rw [c6_2]; rfl) | (rw [c6_3]; rfl) | (rw [c6_4]; rfl) | (rw [c6_5]; rfl) | (rw [c6_100]; rfl) | (rw [c6_101]; rfl) | (rw [c6_102]; rfl) | (rw [c6_103]; rfl) | (rw [c6_104]; rfl) | (rw [c6_105]; rfl) | (rw [c6_106]; rfl) | (rw [c6_107]; rfl) | (rw [c6_108]; rfl) | (rw [c6_109]; rfl) | (rw [c6_110]; rfl) | (rw [c6_200]; rfl) | (rw [c6_201]; rfl) | (rw [c6_202]; rfl) | (rw [c6_300]; rfl) | (rw [c6_301]; rfl) | (rw [c6_302]; rfl) | (rw [c6_303]; rfl) | (rw [c6_304]; rfl) | (rw [c6_305]; rfl) | (rw [c6_400]; rfl) | (rw [c6_401]; rfl) | (rw [c6_402]; rfl) | (rw [c6_403]; rfl) | (rw [c6_404]; rfl) | (rw [c6_405]; rfl) | (rw [c6_406]; rfl) | (rw [c6_407]; rfl) | (rw [c6_500]; rfl) | (rw [c6_501]; rfl) | (rw [c6_502]; rfl) | (rw [c6_503]; rfl) | (rw [c6_504]; rfl) | (rw [c6_505]; rfl) | (unfold ftLt; rw [if_neg c6_0, if_neg c6_1, if_neg c6_2, if_neg c6_3, if_neg c6_4, if_neg c6_5, if_neg c6_100, if_neg c6_101, if_neg c6_102, if_neg c6_103, if_neg c6_104, if_neg c6_105, if_neg c6_106, if_neg c6_107, if_neg c6_108, if_neg c6_109, if_neg c6_110, if_neg c6_200, if_neg c6_201, if_neg c6_202, if_neg c6_300, if_neg c6_301, if_neg c6_302, if_neg c6_303, if_neg c6_304, if_neg c6_305, if_neg c6_400, if_neg c6_401, if_neg c6_402, if_neg c6_403, if_neg c6_404, if_neg c6_405, if_neg c6_406, if_neg c6_407, if_neg c6_500, if_neg c6_501, if_neg c6_502, if_neg c6_503, if_neg c6_504, if_neg c6_505])), ht⟩) (fun _ h9 => absurd h9 List.not_mem_nil) dX11_letterOf_344
  by_cases c6_202 : (nI ((100 * j) + k)) = 202
  · refine lv_lookup (off := 360) (tgt := 366) hx hb dX11_letterOf_6 (by decide) (by rw [c6_202]; decide) (by decide) ?_
    refine lv_bipush (v := 100) hx hb dX11_letterOf_366 (by decide) ?_
    exact W.iret (v := 100) hx hb hr (fun t ht hW => ⟨100, rfl, (by show (100 : Int32) = ftLt (nI (100 * j + k)); first | (rw [c6_0]; rfl) | (rw [c6_1]; rfl) | (rw [c6_2]; rfl) | (rw [c6_3]; rfl) | (rw [c6_4]; rfl) | (rw [c6_5]; rfl) | (rw [c6_100]; rfl) | (rw [c6_101]; rfl) | (rw [c6_102]; rfl) | (rw [c6_103]; rfl) | (rw [c6_104]; rfl) | (rw [c6_105]; rfl) | (rw [c6_106]; rfl) | (rw [c6_107]; rfl) | (rw [c6_108]; rfl) | (rw [c6_109]; rfl) | (rw [c6_110]; rfl) | (rw [c6_200]; rfl) | (rw [c6_201]; rfl) | (rw [c6_202]; rfl) | (rw [c6_300]; rfl) | (rw [c6_301]; rfl) | (rw [c6_302]; rfl) | (rw [c6_303]; rfl) | (rw [c6_304]; rfl) | (rw [c6_305]; rfl) | (rw [c6_400]; rfl) | (rw [c6_401]; rfl) | (rw [c6_402]; rfl) | (rw [c6_403]; rfl) | (rw [c6_404]; rfl) | (rw [c6_405]; rfl) | (rw [c6_406]; rfl) | (rw [c6_407]; rfl) | (rw [c6_500]; rfl) | (rw [c6_501]; rfl) | (rw [c6_502]; rfl) | (rw [c6_503]; rfl) | (rw [c6_504]; rfl) | (rw [c6_505]; rfl) | (unfold ftLt; rw [if_neg c6_0, if_neg c6_1, if_neg c6_2, if_neg c6_3, if_neg c6_4, if_neg c6_5, if_neg c6_100, if_neg c6_101, if_neg c6_102, if_neg c6_103, if_neg c6_104, if_neg c6_105, if_neg c6_106, if_neg c6_107, if_neg c6_108, if_neg c6_109, if_neg c6_110, if_neg c6_200, if_neg c6_201, if_neg c6_202, if_neg c6_300, if_neg c6_301, if_neg c6_302, if_neg c6_303, if_neg c6_304, if_neg c6_305, if_neg c6_400, if_neg c6_401, if_neg c6_402, if_neg c6_403, if_neg c6_404, if_neg c6_405, if_neg c6_406, if_neg c6_407, if_neg c6_500, if_neg c6_501, if_neg c6_502, if_neg c6_503, if_neg c6_504, if_neg c6_505])), ht⟩) (fun _ h9 => absurd h9 List.not_mem_nil) dX11_letterOf_368
  by_cases c6_300 : (nI ((100 * j) + k)) = 300
  · refine lv_lookup (off := 363) (tgt := 369) hx hb dX11_letterOf_6 (by decide) (by rw [c6_300]; decide) (by decide) ?_
    refine lv_bipush (v := 115) hx hb dX11_letterOf_369 (by decide) ?_
    exact W.iret (v := 115) hx hb hr (fun t ht hW => ⟨115, rfl, (by show (115 : Int32) = ftLt (nI (100 * j + k)); first | (rw [c6_0]; rfl) | (rw [c6_1]; rfl) | (rw [c6_2]; rfl) | (rw [c6_3]; rfl) | (rw [c6_4]; rfl) | (rw [c6_5]; rfl) | (rw [c6_100]; rfl) | (rw [c6_101]; rfl) | (rw [c6_102]; rfl) | (rw [c6_103]; rfl) | (rw [c6_104]; rfl) | (rw [c6_105]; rfl) | (rw [c6_106]; rfl) | (rw [c6_107]; rfl) | (rw [c6_108]; rfl) | (rw [c6_109]; rfl) | (rw [c6_110]; rfl) | (rw [c6_200]; rfl) | (rw [c6_201]; rfl) | (rw [c6_202]; rfl) | (rw [c6_300]; rfl) | (rw [c6_301]; rfl) | (rw [c6_302]; rfl) | (rw [c6_303]; rfl) | (rw [c6_304]; rfl) | (rw [c6_305]; rfl) | (rw [c6_400]; rfl) | (rw [c6_401]; rfl) | (rw [c6_402]; rfl) | (rw [c6_403]; rfl) | (rw [c6_404]; rfl) | (rw [c6_405]; rfl) | (rw [c6_406]; rfl) | (rw [c6_407]; rfl) | (rw [c6_500]; rfl) | (rw [c6_501]; rfl) | (rw [c6_502]; rfl) | (rw [c6_503]; rfl) | (rw [c6_504]; rfl) | (rw [c6_505]; rfl) | (unfold ftLt; rw [if_neg c6_0, if_neg c6_1, if_neg c6_2, if_neg c6_3, if_neg c6_4, if_neg c6_5, if_neg c6_100, if_neg c6_101, if_neg c6_102, if_neg c6_103, if_neg c6_104, if_neg c6_105, if_neg c6_106, if_neg c6_107, if_neg c6_108, if_neg c6_109, if_neg c6_110, if_neg c6_200, if_neg c6_201, if_neg c6_202, if_neg c6_300, if_neg c6_301, if_neg c6_302, if_neg c6_303, if_neg c6_304, if_neg c6_305, if_neg c6_400, if_neg c6_401, if_neg c6_402, if_neg c6_403, if_neg c6_404, if_neg c6_405, if_neg c6_406, if_neg c6_407, if_neg c6_500, if_neg c6_501, if_neg c6_502, if_neg c6_503, if_neg c6_504, if_neg c6_505])), ht⟩) (fun _ h9 => absurd h9 List.not_mem_nil) dX11_letterOf_371
  by_cases c6_301 : (nI ((100 * j) + k)) = 301
  · refine lv_lookup (off := 366) (tgt := 372) hx hb dX11_letterOf_6 (by decide) (by rw [c6_301]; decide) (by decide) ?_
    refine lv_bipush (v := 112) hx hb dX11_letterOf_372 (by decide) ?_
    exact W.iret (v := 112) hx hb hr (fun t ht hW => ⟨112, rfl, (by show (112 : Int32) = ftLt (nI (100 * j + k)); first | (rw [c6_0]; rfl) | (rw [c6_1]; rfl) | (rw [c6_2]; rfl) | (rw [c6_3]; rfl) | (rw [c6_4]; rfl) | (rw [c6_5]; rfl) | (rw [c6_100]; rfl) | (rw [c6_101]; rfl) | (rw [c6_102]; rfl) | (rw [c6_103]; rfl) | (rw [c6_104]; rfl) | (rw [c6_105]; rfl) | (rw [c6_106]; rfl) | (rw [c6_107]; rfl) | (rw [c6_108]; rfl) | (rw [c6_109]; rfl) | (rw [c6_110]; rfl) | (rw [c6_200]; rfl) | (rw [c6_201]; rfl) | (rw [c6_202]; rfl) | (rw [c6_300]; rfl) | (rw [c6_301]; rfl) | (rw [c6_302]; rfl) | (rw [c6_303]; rfl) | (rw [c6_304]; rfl) | (rw [c6_305]; rfl) | (rw [c6_400]; rfl) | (rw [c6_401]; rfl) | (rw [c6_402]; rfl) | (rw [c6_403]; rfl) | (rw [c6_404]; rfl) | (rw [c6_405]; rfl) | (rw [c6_406]; rfl) | (rw [c6_407]; rfl) | (rw [c6_500]; rfl) | (rw [c6_501]; rfl) | (rw [c6_502]; rfl) | (rw [c6_503]; rfl) | (rw [c6_504]; rfl) | (rw [c6_505]; rfl) | (unfold ftLt; rw [if_neg c6_0, if_neg c6_1, if_neg c6_2, if_neg c6_3, if_neg c6_4, if_neg c6_5, if_neg c6_100, if_neg c6_101, if_neg c6_102, if_neg c6_103, if_neg c6_104, if_neg c6_105, if_neg c6_106, if_neg c6_107, if_neg c6_108, if_neg c6_109, if_neg c6_110, if_neg c6_200, if_neg c6_201, if_neg c6_202, if_neg c6_300, if_neg c6_301, if_neg c6_302, if_neg c6_303, if_neg c6_304, if_neg c6_305, if_neg c6_400, if_neg c6_401, if_neg c6_402, if_neg c6_403, if_neg c6_404, if_neg c6_405, if_neg c6_406, if_neg c6_407, if_neg c6_500, if_neg c6_501, if_neg c6_502, if_neg c6_503, if_neg c6_504, if_neg c6_505])), ht⟩) (fun _ h9 => absurd h9 List.not_mem_nil) dX11_letterOf_374
  by_cases c6_302 : (nI ((100 * j) + k)) = 302
  · refine lv_lookup (off := 330) (tgt := 336) hx hb dX11_letterOf_6 (by decide) (by rw [c6_302]; decide) (by decide) ?_
    refine lv_bipush (v := 108) hx hb dX11_letterOf_336 (by decide) ?_
    exact W.iret (v := 108) hx hb hr (fun t ht hW => ⟨108, rfl, (by show (108 : Int32) = ftLt (nI (100 * j + k)); first | (rw [c6_0]; rfl) | (rw [c6_1]; rfl) | (rw [c6_2]; rfl) | (rw [c6_3]; rfl) | (rw [c6_4]; rfl) | (rw [c6_5]; rfl) | (rw [c6_100]; rfl) | (rw [c6_101]; rfl) | (rw [c6_102]; rfl) | (rw [c6_103]; rfl) | (rw [c6_104]; rfl) | (rw [c6_105]; rfl) | (rw [c6_106]; rfl) | (rw [c6_107]; rfl) | (rw [c6_108]; rfl) | (rw [c6_109]; rfl) | (rw [c6_110]; rfl) | (rw [c6_200]; rfl) | (rw [c6_201]; rfl) | (rw [c6_202]; rfl) | (rw [c6_300]; rfl) | (rw [c6_301]; rfl) | (rw [c6_302]; rfl) | (rw [c6_303]; rfl) | (rw [c6_304]; rfl) | (rw [c6_305]; rfl) | (rw [c6_400]; rfl) | (rw [c6_401]; rfl) | (rw [c6_402]; rfl) | (rw [c6_403]; rfl) | (rw [c6_404]; rfl) | (rw [c6_405]; rfl) | (rw [c6_406]; rfl) | (rw [c6_407]; rfl) | (rw [c6_500]; rfl) | (rw [c6_501]; rfl) | (rw [c6_502]; rfl) | (rw [c6_503]; rfl) | (rw [c6_504]; rfl) | (rw [c6_505]; rfl) | (unfold ftLt; rw [if_neg c6_0, if_neg c6_1, if_neg c6_2, if_neg c6_3, if_neg c6_4, if_neg c6_5, if_neg c6_100, if_neg c6_101, if_neg c6_102, if_neg c6_103, if_neg c6_104, if_neg c6_105, if_neg c6_106, if_neg c6_107, if_neg c6_108, if_neg c6_109, if_neg c6_110, if_neg c6_200, if_neg c6_201, if_neg c6_202, if_neg c6_300, if_neg c6_301, if_neg c6_302, if_neg c6_303, if_neg c6_304, if_neg c6_305, if_neg c6_400, if_neg c6_401, if_neg c6_402, if_neg c6_403, if_neg c6_404, if_neg c6_405, if_neg c6_406, if_neg c6_407, if_neg c6_500, if_neg c6_501, if_neg c6_502, if_neg c6_503, if_neg c6_504, if_neg c6_505])), ht⟩) (fun _ h9 => absurd h9 List.not_mem_nil) dX11_letterOf_338
  by_cases c6_303 : (nI ((100 * j) + k)) = 303
  · refine lv_lookup (off := 354) (tgt := 360) hx hb dX11_letterOf_6 (by decide) (by rw [c6_303]; decide) (by decide) ?_
    refine lv_bipush (v := 105) hx hb dX11_letterOf_360 (by decide) ?_
    exact W.iret (v := 105) hx hb hr (fun t ht hW => ⟨105, rfl, (by show (105 : Int32) = ftLt (nI (100 * j + k)); first | (rw [c6_0]; rfl) | (rw [c6_1]; rfl) | (rw [c6_2]; rfl) | (rw [c6_3]; rfl) | (rw [c6_4]; rfl) | (rw [c6_5]; rfl) | (rw [c6_100]; rfl) | (rw [c6_101]; rfl) | (rw [c6_102]; rfl) | (rw [c6_103]; rfl) | (rw [c6_104]; rfl) | (rw [c6_105]; rfl) | (rw [c6_106]; rfl) | (rw [c6_107]; rfl) | (rw [c6_108]; rfl) | (rw [c6_109]; rfl) | (rw [c6_110]; rfl) | (rw [c6_200]; rfl) | (rw [c6_201]; rfl) | (rw [c6_202]; rfl) | (rw [c6_300]; rfl) | (rw [c6_301]; rfl) | (rw [c6_302]; rfl) | (rw [c6_303]; rfl) | (rw [c6_304]; rfl) | (rw [c6_305]; rfl) | (rw [c6_400]; rfl) | (rw [c6_401]; rfl) | (rw [c6_402]; rfl) | (rw [c6_403]; rfl) | (rw [c6_404]; rfl) | (rw [c6_405]; rfl) | (rw [c6_406]; rfl) | (rw [c6_407]; rfl) | (rw [c6_500]; rfl) | (rw [c6_501]; rfl) | (rw [c6_502]; rfl) | (rw [c6_503]; rfl) | (rw [c6_504]; rfl) | (rw [c6_505]; rfl) | (unfold ftLt; rw [if_neg c6_0, if_neg c6_1, if_neg c6_2, if_neg c6_3, if_neg c6_4, if_neg c6_5, if_neg c6_100, if_neg c6_101, if_neg c6_102, if_neg c6_103, if_neg c6_104, if_neg c6_105, if_neg c6_106, if_neg c6_107, if_neg c6_108, if_neg c6_109, if_neg c6_110, if_neg c6_200, if_neg c6_201, if_neg c6_202, if_neg c6_300, if_neg c6_301, if_neg c6_302, if_neg c6_303, if_neg c6_304, if_neg c6_305, if_neg c6_400, if_neg c6_401, if_neg c6_402, if_neg c6_403, if_neg c6_404, if_neg c6_405, if_neg c6_406, if_neg c6_407, if_neg c6_500, if_neg c6_501, if_neg c6_502, if_neg c6_503, if_neg c6_504, if_neg c6_505])), ht⟩) (fun _ h9 => absurd h9 List.not_mem_nil) dX11_letterOf_362
  by_cases c6_304 : (nI ((100 * j) + k)) = 304
  · refine lv_lookup (off := 369) (tgt := 375) hx hb dX11_letterOf_6 (by decide) (by rw [c6_304]; decide) (by decide) ?_
    refine lv_bipush (v := 99) hx hb dX11_letterOf_375 (by decide) ?_
    exact W.iret (v := 99) hx hb hr (fun t ht hW => ⟨99, rfl, (by show (99 : Int32) = ftLt (nI (100 * j + k)); first | (rw [c6_0]; rfl) | (rw [c6_1]; rfl) | (rw [c6_2]; rfl) | (rw [c6_3]; rfl) | (rw [c6_4]; rfl) | (rw [c6_5]; rfl) | (rw [c6_100]; rfl) | (rw [c6_101]; rfl) | (rw [c6_102]; rfl) | (rw [c6_103]; rfl) | (rw [c6_104]; rfl) | (rw [c6_105]; rfl) | (rw [c6_106]; rfl) | (rw [c6_107]; rfl) | (rw [c6_108]; rfl) | (rw [c6_109]; rfl) | (rw [c6_110]; rfl) | (rw [c6_200]; rfl) | (rw [c6_201]; rfl) | (rw [c6_202]; rfl) | (rw [c6_300]; rfl) | (rw [c6_301]; rfl) | (rw [c6_302]; rfl) | (rw [c6_303]; rfl) | (rw [c6_304]; rfl) | (rw [c6_305]; rfl) | (rw [c6_400]; rfl) | (rw [c6_401]; rfl) | (rw [c6_402]; rfl) | (rw [c6_403]; rfl) | (rw [c6_404]; rfl) | (rw [c6_405]; rfl) | (rw [c6_406]; rfl) | (rw [c6_407]; rfl) | (rw [c6_500]; rfl) | (rw [c6_501]; rfl) | (rw [c6_502]; rfl) | (rw [c6_503]; rfl) | (rw [c6_504]; rfl) | (rw [c6_505]; rfl) | (unfold ftLt; rw [if_neg c6_0, if_neg c6_1, if_neg c6_2, if_neg c6_3, if_neg c6_4, if_neg c6_5, if_neg c6_100, if_neg c6_101, if_neg c6_102, if_neg c6_103, if_neg c6_104, if_neg c6_105, if_neg c6_106, if_neg c6_107, if_neg c6_108, if_neg c6_109, if_neg c6_110, if_neg c6_200, if_neg c6_201, if_neg c6_202, if_neg c6_300, if_neg c6_301, if_neg c6_302, if_neg c6_303, if_neg c6_304, if_neg c6_305, if_neg c6_400, if_neg c6_401, if_neg c6_402, if_neg c6_403, if_neg c6_404, if_neg c6_405, if_neg c6_406, if_neg c6_407, if_neg c6_500, if_neg c6_501, if_neg c6_502, if_neg c6_503, if_neg c6_504, if_neg c6_505])), ht⟩) (fun _ h9 => absurd h9 List.not_mem_nil) dX11_letterOf_377
  by_cases c6_305 : (nI ((100 * j) + k)) = 305
  · refine lv_lookup (off := 333) (tgt := 339) hx hb dX11_letterOf_6 (by decide) (by rw [c6_305]; decide) (by decide) ?_
    refine lv_bipush (v := 101) hx hb dX11_letterOf_339 (by decide) ?_
    exact W.iret (v := 101) hx hb hr (fun t ht hW => ⟨101, rfl, (by show (101 : Int32) = ftLt (nI (100 * j + k)); first | (rw [c6_0]; rfl) | (rw [c6_1]; rfl) | (rw [c6_2]; rfl) | (rw [c6_3]; rfl) | (rw [c6_4]; rfl) | (rw [c6_5]; rfl) | (rw [c6_100]; rfl) | (rw [c6_101]; rfl) | (rw [c6_102]; rfl) | (rw [c6_103]; rfl) | (rw [c6_104]; rfl) | (rw [c6_105]; rfl) | (rw [c6_106]; rfl) | (rw [c6_107]; rfl) | (rw [c6_108]; rfl) | (rw [c6_109]; rfl) | (rw [c6_110]; rfl) | (rw [c6_200]; rfl) | (rw [c6_201]; rfl) | (rw [c6_202]; rfl) | (rw [c6_300]; rfl) | (rw [c6_301]; rfl) | (rw [c6_302]; rfl) | (rw [c6_303]; rfl) | (rw [c6_304]; rfl) | (rw [c6_305]; rfl) | (rw [c6_400]; rfl) | (rw [c6_401]; rfl) | (rw [c6_402]; rfl) | (rw [c6_403]; rfl) | (rw [c6_404]; rfl) | (rw [c6_405]; rfl) | (rw [c6_406]; rfl) | (rw [c6_407]; rfl) | (rw [c6_500]; rfl) | (rw [c6_501]; rfl) | (rw [c6_502]; rfl) | (rw [c6_503]; rfl) | (rw [c6_504]; rfl) | (rw [c6_505]; rfl) | (unfold ftLt; rw [if_neg c6_0, if_neg c6_1, if_neg c6_2, if_neg c6_3, if_neg c6_4, if_neg c6_5, if_neg c6_100, if_neg c6_101, if_neg c6_102, if_neg c6_103, if_neg c6_104, if_neg c6_105, if_neg c6_106, if_neg c6_107, if_neg c6_108, if_neg c6_109, if_neg c6_110, if_neg c6_200, if_neg c6_201, if_neg c6_202, if_neg c6_300, if_neg c6_301, if_neg c6_302, if_neg c6_303, if_neg c6_304, if_neg c6_305, if_neg c6_400, if_neg c6_401, if_neg c6_402, if_neg c6_403, if_neg c6_404, if_neg c6_405, if_neg c6_406, if_neg c6_407, if_neg c6_500, if_neg c6_501, if_neg c6_502, if_neg c6_503, if_neg c6_504, if_neg c6_505])), ht⟩) (fun _ h9 => absurd h9 List.not_mem_nil) dX11_letterOf_341
  by_cases c6_400 : (nI ((100 * j) + k)) = 400
  · refine lv_lookup (off := 369) (tgt := 375) hx hb dX11_letterOf_6 (by decide) (by rw [c6_400]; decide) (by decide) ?_
    refine lv_bipush (v := 99) hx hb dX11_letterOf_375 (by decide) ?_
    exact W.iret (v := 99) hx hb hr (fun t ht hW => ⟨99, rfl, (by show (99 : Int32) = ftLt (nI (100 * j + k)); first | (rw [c6_0]; rfl) | (rw [c6_1]; rfl) | (rw [c6_2]; rfl) | (rw [c6_3]; rfl) | (rw [c6_4]; rfl) | (rw [c6_5]; rfl) | (rw [c6_100]; rfl) | (rw [c6_101]; rfl) | (rw [c6_102]; rfl) | (rw [c6_103]; rfl) | (rw [c6_104]; rfl) | (rw [c6_105]; rfl) | (rw [c6_106]; rfl) | (rw [c6_107]; rfl) | (rw [c6_108]; rfl) | (rw [c6_109]; rfl) | (rw [c6_110]; rfl) | (rw [c6_200]; rfl) | (rw [c6_201]; rfl) | (rw [c6_202]; rfl) | (rw [c6_300]; rfl) | (rw [c6_301]; rfl) | (rw [c6_302]; rfl) | (rw [c6_303]; rfl) | (rw [c6_304]; rfl) | (rw [c6_305]; rfl) | (rw [c6_400]; rfl) | (rw [c6_401]; rfl) | (rw [c6_402]; rfl) | (rw [c6_403]; rfl) | (rw [c6_404]; rfl) | (rw [c6_405]; rfl) | (rw [c6_406]; rfl) | (rw [c6_407]; rfl) | (rw [c6_500]; rfl) | (rw [c6_501]; rfl) | (rw [c6_502]; rfl) | (rw [c6_503]; rfl) | (rw [c6_504]; rfl) | (rw [c6_505]; rfl) | (unfold ftLt; rw [if_neg c6_0, if_neg c6_1, if_neg c6_2, if_neg c6_3, if_neg c6_4, if_neg c6_5, if_neg c6_100, if_neg c6_101, if_neg c6_102, if_neg c6_103, if_neg c6_104, if_neg c6_105, if_neg c6_106, if_neg c6_107, if_neg c6_108, if_neg c6_109, if_neg c6_110, if_neg c6_200, if_neg c6_201, if_neg c6_202, if_neg c6_300, if_neg c6_301, if_neg c6_302, if_neg c6_303, if_neg c6_304, if_neg c6_305, if_neg c6_400, if_neg c6_401, if_neg c6_402, if_neg c6_403, if_neg c6_404, if_neg c6_405, if_neg c6_406, if_neg c6_407, if_neg c6_500, if_neg c6_501, if_neg c6_502, if_neg c6_503, if_neg c6_504, if_neg c6_505])), ht⟩) (fun _ h9 => absurd h9 List.not_mem_nil) dX11_letterOf_377
  by_cases c6_401 : (nI ((100 * j) + k)) = 401
  · refine lv_lookup (off := 357) (tgt := 363) hx hb dX11_letterOf_6 (by decide) (by rw [c6_401]; decide) (by decide) ?_
    refine lv_bipush (v := 111) hx hb dX11_letterOf_363 (by decide) ?_
    exact W.iret (v := 111) hx hb hr (fun t ht hW => ⟨111, rfl, (by show (111 : Int32) = ftLt (nI (100 * j + k)); first | (rw [c6_0]; rfl) | (rw [c6_1]; rfl) | (rw [c6_2]; rfl) | (rw [c6_3]; rfl) | (rw [c6_4]; rfl) | (rw [c6_5]; rfl) | (rw [c6_100]; rfl) | (rw [c6_101]; rfl) | (rw [c6_102]; rfl) | (rw [c6_103]; rfl) | (rw [c6_104]; rfl) | (rw [c6_105]; rfl) | (rw [c6_106]; rfl) | (rw [c6_107]; rfl) | (rw [c6_108]; rfl) | (rw [c6_109]; rfl) | (rw [c6_110]; rfl) | (rw [c6_200]; rfl) | (rw [c6_201]; rfl) | (rw [c6_202]; rfl) | (rw [c6_300]; rfl) | (rw [c6_301]; rfl) | (rw [c6_302]; rfl) | (rw [c6_303]; rfl) | (rw [c6_304]; rfl) | (rw [c6_305]; rfl) | (rw [c6_400]; rfl) | (rw [c6_401]; rfl) | (rw [c6_402]; rfl) | (rw [c6_403]; rfl) | (rw [c6_404]; rfl) | (rw [c6_405]; rfl) | (rw [c6_406]; rfl) | (rw [c6_407]; rfl) | (rw [c6_500]; rfl) | (rw [c6_501]; rfl) | (rw [c6_502]; rfl) | (rw [c6_503]; rfl) | (rw [c6_504]; rfl) | (rw [c6_505]; rfl) | (unfold ftLt; rw [if_neg c6_0, if_neg c6_1, if_neg c6_2, if_neg c6_3, if_neg c6_4, if_neg c6_5, if_neg c6_100, if_neg c6_101, if_neg c6_102, if_neg c6_103, if_neg c6_104, if_neg c6_105, if_neg c6_106, if_neg c6_107, if_neg c6_108, if_neg c6_109, if_neg c6_110, if_neg c6_200, if_neg c6_201, if_neg c6_202, if_neg c6_300, if_neg c6_301, if_neg c6_302, if_neg c6_303, if_neg c6_304, if_neg c6_305, if_neg c6_400, if_neg c6_401, if_neg c6_402, if_neg c6_403, if_neg c6_404, if_neg c6_405, if_neg c6_406, if_neg c6_407, if_neg c6_500, if_neg c6_501, if_neg c6_502, if_neg c6_503, if_neg c6_504, if_neg c6_505])), ht⟩) (fun _ h9 => absurd h9 List.not_mem_nil) dX11_letterOf_365
  by_cases c6_402 : (nI ((100 * j) + k)) = 402
  · refine lv_lookup (off := 336) (tgt := 342) hx hb dX11_letterOf_6 (by decide) (by rw [c6_402]; decide) (by decide) ?_
    refine lv_bipush (v := 110) hx hb dX11_letterOf_342 (by decide) ?_
    exact W.iret (v := 110) hx hb hr (fun t ht hW => ⟨110, rfl, (by show (110 : Int32) = ftLt (nI (100 * j + k)); first | (rw [c6_0]; rfl) | (rw [c6_1]; rfl) | (rw [c6_2]; rfl) | (rw [c6_3]; rfl) | (rw [c6_4]; rfl) | (rw [c6_5]; rfl) | (rw [c6_100]; rfl) | (rw [c6_101]; rfl) | (rw [c6_102]; rfl) | (rw [c6_103]; rfl) | (rw [c6_104]; rfl) | (rw [c6_105]; rfl) | (rw [c6_106]; rfl) | (rw [c6_107]; rfl) | (rw [c6_108]; rfl) | (rw [c6_109]; rfl) | (rw [c6_110]; rfl) | (rw [c6_200]; rfl) | (rw [c6_201]; rfl) | (rw [c6_202]; rfl) | (rw [c6_300]; rfl) | (rw [c6_301]; rfl) | (rw [c6_302]; rfl) | (rw [c6_303]; rfl) | (rw [c6_304]; rfl) | (rw [c6_305]; rfl) | (rw [c6_400]; rfl) | (rw [c6_401]; rfl) | (rw [c6_402]; rfl) | (rw [c6_403]; rfl) | (rw [c6_404]; rfl) | (rw [c6_405]; rfl) | (rw [c6_406]; rfl) | (rw [c6_407]; rfl) | (rw [c6_500]; rfl) | (rw [c6_501]; rfl) | (rw [c6_502]; rfl) | (rw [c6_503]; rfl) | (rw [c6_504]; rfl) | (rw [c6_505]; rfl) | (unfold ftLt; rw [if_neg c6_0, if_neg c6_1, if_neg c6_2, if_neg c6_3, if_neg c6_4, if_neg c6_5, if_neg c6_100, if_neg c6_101, if_neg c6_102, if_neg c6_103, if_neg c6_104, if_neg c6_105, if_neg c6_106, if_neg c6_107, if_neg c6_108, if_neg c6_109, if_neg c6_110, if_neg c6_200, if_neg c6_201, if_neg c6_202, if_neg c6_300, if_neg c6_301, if_neg c6_302, if_neg c6_303, if_neg c6_304, if_neg c6_305, if_neg c6_400, if_neg c6_401, if_neg c6_402, if_neg c6_403, if_neg c6_404, if_neg c6_405, if_neg c6_406, if_neg c6_407, if_neg c6_500, if_neg c6_501, if_neg c6_502, if_neg c6_503, if_neg c6_504, if_neg c6_505])), ht⟩) (fun _ h9 => absurd h9 List.not_mem_nil) dX11_letterOf_344
  by_cases c6_403 : (nI ((100 * j) + k)) = 403
  · refine lv_lookup (off := 336) (tgt := 342) hx hb dX11_letterOf_6 (by decide) (by rw [c6_403]; decide) (by decide) ?_
    refine lv_bipush (v := 110) hx hb dX11_letterOf_342 (by decide) ?_
    exact W.iret (v := 110) hx hb hr (fun t ht hW => ⟨110, rfl, (by show (110 : Int32) = ftLt (nI (100 * j + k)); first | (rw [c6_0]; rfl) | (rw [c6_1]; rfl) | (rw [c6_2]; rfl) | (rw [c6_3]; rfl) | (rw [c6_4]; rfl) | (rw [c6_5]; rfl) | (rw [c6_100]; rfl) | (rw [c6_101]; rfl) | (rw [c6_102]; rfl) | (rw [c6_103]; rfl) | (rw [c6_104]; rfl) | (rw [c6_105]; rfl) | (rw [c6_106]; rfl) | (rw [c6_107]; rfl) | (rw [c6_108]; rfl) | (rw [c6_109]; rfl) | (rw [c6_110]; rfl) | (rw [c6_200]; rfl) | (rw [c6_201]; rfl) | (rw [c6_202]; rfl) | (rw [c6_300]; rfl) | (rw [c6_301]; rfl) | (rw [c6_302]; rfl) | (rw [c6_303]; rfl) | (rw [c6_304]; rfl) | (rw [c6_305]; rfl) | (rw [c6_400]; rfl) | (rw [c6_401]; rfl) | (rw [c6_402]; rfl) | (rw [c6_403]; rfl) | (rw [c6_404]; rfl) | (rw [c6_405]; rfl) | (rw [c6_406]; rfl) | (rw [c6_407]; rfl) | (rw [c6_500]; rfl) | (rw [c6_501]; rfl) | (rw [c6_502]; rfl) | (rw [c6_503]; rfl) | (rw [c6_504]; rfl) | (rw [c6_505]; rfl) | (unfold ftLt; rw [if_neg c6_0, if_neg c6_1, if_neg c6_2, if_neg c6_3, if_neg c6_4, if_neg c6_5, if_neg c6_100, if_neg c6_101, if_neg c6_102, if_neg c6_103, if_neg c6_104, if_neg c6_105, if_neg c6_106, if_neg c6_107, if_neg c6_108, if_neg c6_109, if_neg c6_110, if_neg c6_200, if_neg c6_201, if_neg c6_202, if_neg c6_300, if_neg c6_301, if_neg c6_302, if_neg c6_303, if_neg c6_304, if_neg c6_305, if_neg c6_400, if_neg c6_401, if_neg c6_402, if_neg c6_403, if_neg c6_404, if_neg c6_405, if_neg c6_406, if_neg c6_407, if_neg c6_500, if_neg c6_501, if_neg c6_502, if_neg c6_503, if_neg c6_504, if_neg c6_505])), ht⟩) (fun _ h9 => absurd h9 List.not_mem_nil) dX11_letterOf_344
  by_cases c6_404 : (nI ((100 * j) + k)) = 404
  · refine lv_lookup (off := 333) (tgt := 339) hx hb dX11_letterOf_6 (by decide) (by rw [c6_404]; decide) (by decide) ?_
    refine lv_bipush (v := 101) hx hb dX11_letterOf_339 (by decide) ?_
    exact W.iret (v := 101) hx hb hr (fun t ht hW => ⟨101, rfl, (by show (101 : Int32) = ftLt (nI (100 * j + k)); first | (rw [c6_0]; rfl) | (rw [c6_1]; rfl) | (rw [c6_2]; rfl) | (rw [c6_3]; rfl) | (rw [c6_4]; rfl) | (rw [c6_5]; rfl) | (rw [c6_100]; rfl) | (rw [c6_101]; rfl) | (rw [c6_102]; rfl) | (rw [c6_103]; rfl) | (rw [c6_104]; rfl) | (rw [c6_105]; rfl) | (rw [c6_106]; rfl) | (rw [c6_107]; rfl) | (rw [c6_108]; rfl) | (rw [c6_109]; rfl) | (rw [c6_110]; rfl) | (rw [c6_200]; rfl) | (rw [c6_201]; rfl) | (rw [c6_202]; rfl) | (rw [c6_300]; rfl) | (rw [c6_301]; rfl) | (rw [c6_302]; rfl) | (rw [c6_303]; rfl) | (rw [c6_304]; rfl) | (rw [c6_305]; rfl) | (rw [c6_400]; rfl) | (rw [c6_401]; rfl) | (rw [c6_402]; rfl) | (rw [c6_403]; rfl) | (rw [c6_404]; rfl) | (rw [c6_405]; rfl) | (rw [c6_406]; rfl) | (rw [c6_407]; rfl) | (rw [c6_500]; rfl) | (rw [c6_501]; rfl) | (rw [c6_502]; rfl) | (rw [c6_503]; rfl) | (rw [c6_504]; rfl) | (rw [c6_505]; rfl) | (unfold ftLt; rw [if_neg c6_0, if_neg c6_1, if_neg c6_2, if_neg c6_3, if_neg c6_4, if_neg c6_5, if_neg c6_100, if_neg c6_101, if_neg c6_102, if_neg c6_103, if_neg c6_104, if_neg c6_105, if_neg c6_106, if_neg c6_107, if_neg c6_108, if_neg c6_109, if_neg c6_110, if_neg c6_200, if_neg c6_201, if_neg c6_202, if_neg c6_300, if_neg c6_301, if_neg c6_302, if_neg c6_303, if_neg c6_304, if_neg c6_305, if_neg c6_400, if_neg c6_401, if_neg c6_402, if_neg c6_403, if_neg c6_404, if_neg c6_405, if_neg c6_406, if_neg c6_407, if_neg c6_500, if_neg c6_501, if_neg c6_502, if_neg c6_503, if_neg c6_504, if_neg c6_505])), ht⟩) (fun _ h9 => absurd h9 List.not_mem_nil) dX11_letterOf_341
  by_cases c6_405 : (nI ((100 * j) + k)) = 405
  · refine lv_lookup (off := 369) (tgt := 375) hx hb dX11_letterOf_6 (by decide) (by rw [c6_405]; decide) (by decide) ?_
    refine lv_bipush (v := 99) hx hb dX11_letterOf_375 (by decide) ?_
    exact W.iret (v := 99) hx hb hr (fun t ht hW => ⟨99, rfl, (by show (99 : Int32) = ftLt (nI (100 * j + k)); first | (rw [c6_0]; rfl) | (rw [c6_1]; rfl) | (rw [c6_2]; rfl) | (rw [c6_3]; rfl) | (rw [c6_4]; rfl) | (rw [c6_5]; rfl) | (rw [c6_100]; rfl) | (rw [c6_101]; rfl) | (rw [c6_102]; rfl) | (rw [c6_103]; rfl) | (rw [c6_104]; rfl) | (rw [c6_105]; rfl) | (rw [c6_106]; rfl) | (rw [c6_107]; rfl) | (rw [c6_108]; rfl) | (rw [c6_109]; rfl) | (rw [c6_110]; rfl) | (rw [c6_200]; rfl) | (rw [c6_201]; rfl) | (rw [c6_202]; rfl) | (rw [c6_300]; rfl) | (rw [c6_301]; rfl) | (rw [c6_302]; rfl) | (rw [c6_303]; rfl) | (rw [c6_304]; rfl) | (rw [c6_305]; rfl) | (rw [c6_400]; rfl) | (rw [c6_401]; rfl) | (rw [c6_402]; rfl) | (rw [c6_403]; rfl) | (rw [c6_404]; rfl) | (rw [c6_405]; rfl) | (rw [c6_406]; rfl) | (rw [c6_407]; rfl) | (rw [c6_500]; rfl) | (rw [c6_501]; rfl) | (rw [c6_502]; rfl) | (rw [c6_503]; rfl) | (rw [c6_504]; rfl) | (rw [c6_505]; rfl) | (unfold ftLt; rw [if_neg c6_0, if_neg c6_1, if_neg c6_2, if_neg c6_3, if_neg c6_4, if_neg c6_5, if_neg c6_100, if_neg c6_101, if_neg c6_102, if_neg c6_103, if_neg c6_104, if_neg c6_105, if_neg c6_106, if_neg c6_107, if_neg c6_108, if_neg c6_109, if_neg c6_110, if_neg c6_200, if_neg c6_201, if_neg c6_202, if_neg c6_300, if_neg c6_301, if_neg c6_302, if_neg c6_303, if_neg c6_304, if_neg c6_305, if_neg c6_400, if_neg c6_401, if_neg c6_402, if_neg c6_403, if_neg c6_404, if_neg c6_405, if_neg c6_406, if_neg c6_407, if_neg c6_500, if_neg c6_501, if_neg c6_502, if_neg c6_503, if_neg c6_504, if_neg c6_505])), ht⟩) (fun _ h9 => absurd h9 List.not_mem_nil) dX11_letterOf_377
  by_cases c6_406 : (nI ((100 * j) + k)) = 406
  · refine lv_lookup (off := 342) (tgt := 348) hx hb dX11_letterOf_6 (by decide) (by rw [c6_406]; decide) (by decide) ?_
    refine lv_bipush (v := 116) hx hb dX11_letterOf_348 (by decide) ?_
    exact W.iret (v := 116) hx hb hr (fun t ht hW => ⟨116, rfl, (by show (116 : Int32) = ftLt (nI (100 * j + k)); first | (rw [c6_0]; rfl) | (rw [c6_1]; rfl) | (rw [c6_2]; rfl) | (rw [c6_3]; rfl) | (rw [c6_4]; rfl) | (rw [c6_5]; rfl) | (rw [c6_100]; rfl) | (rw [c6_101]; rfl) | (rw [c6_102]; rfl) | (rw [c6_103]; rfl) | (rw [c6_104]; rfl) | (rw [c6_105]; rfl) | (rw [c6_106]; rfl) | (rw [c6_107]; rfl) | (rw [c6_108]; rfl) | (rw [c6_109]; rfl) | (rw [c6_110]; rfl) | (rw [c6_200]; rfl) | (rw [c6_201]; rfl) | (rw [c6_202]; rfl) | (rw [c6_300]; rfl) | (rw [c6_301]; rfl) | (rw [c6_302]; rfl) | (rw [c6_303]; rfl) | (rw [c6_304]; rfl) | (rw [c6_305]; rfl) | (rw [c6_400]; rfl) | (rw [c6_401]; rfl) | (rw [c6_402]; rfl) | (rw [c6_403]; rfl) | (rw [c6_404]; rfl) | (rw [c6_405]; rfl) | (rw [c6_406]; rfl) | (rw [c6_407]; rfl) | (rw [c6_500]; rfl) | (rw [c6_501]; rfl) | (rw [c6_502]; rfl) | (rw [c6_503]; rfl) | (rw [c6_504]; rfl) | (rw [c6_505]; rfl) | (unfold ftLt; rw [if_neg c6_0, if_neg c6_1, if_neg c6_2, if_neg c6_3, if_neg c6_4, if_neg c6_5, if_neg c6_100, if_neg c6_101, if_neg c6_102, if_neg c6_103, if_neg c6_104, if_neg c6_105, if_neg c6_106, if_neg c6_107, if_neg c6_108, if_neg c6_109, if_neg c6_110, if_neg c6_200, if_neg c6_201, if_neg c6_202, if_neg c6_300, if_neg c6_301, if_neg c6_302, if_neg c6_303, if_neg c6_304, if_neg c6_305, if_neg c6_400, if_neg c6_401, if_neg c6_402, if_neg c6_403, if_neg c6_404, if_neg c6_405, if_neg c6_406, if_neg c6_407, if_neg c6_500, if_neg c6_501, if_neg c6_502, if_neg c6_503, if_neg c6_504, if_neg c6_505])), ht⟩) (fun _ h9 => absurd h9 List.not_mem_nil) dX11_letterOf_350
  by_cases c6_407 : (nI ((100 * j) + k)) = 407
  · refine lv_lookup (off := 357) (tgt := 363) hx hb dX11_letterOf_6 (by decide) (by rw [c6_407]; decide) (by decide) ?_
    refine lv_bipush (v := 111) hx hb dX11_letterOf_363 (by decide) ?_
    exact W.iret (v := 111) hx hb hr (fun t ht hW => ⟨111, rfl, (by show (111 : Int32) = ftLt (nI (100 * j + k)); first | (rw [c6_0]; rfl) | (rw [c6_1]; rfl) | (rw [c6_2]; rfl) | (rw [c6_3]; rfl) | (rw [c6_4]; rfl) | (rw [c6_5]; rfl) | (rw [c6_100]; rfl) | (rw [c6_101]; rfl) | (rw [c6_102]; rfl) | (rw [c6_103]; rfl) | (rw [c6_104]; rfl) | (rw [c6_105]; rfl) | (rw [c6_106]; rfl) | (rw [c6_107]; rfl) | (rw [c6_108]; rfl) | (rw [c6_109]; rfl) | (rw [c6_110]; rfl) | (rw [c6_200]; rfl) | (rw [c6_201]; rfl) | (rw [c6_202]; rfl) | (rw [c6_300]; rfl) | (rw [c6_301]; rfl) | (rw [c6_302]; rfl) | (rw [c6_303]; rfl) | (rw [c6_304]; rfl) | (rw [c6_305]; rfl) | (rw [c6_400]; rfl) | (rw [c6_401]; rfl) | (rw [c6_402]; rfl) | (rw [c6_403]; rfl) | (rw [c6_404]; rfl) | (rw [c6_405]; rfl) | (rw [c6_406]; rfl) | (rw [c6_407]; rfl) | (rw [c6_500]; rfl) | (rw [c6_501]; rfl) | (rw [c6_502]; rfl) | (rw [c6_503]; rfl) | (rw [c6_504]; rfl) | (rw [c6_505]; rfl) | (unfold ftLt; rw [if_neg c6_0, if_neg c6_1, if_neg c6_2, if_neg c6_3, if_neg c6_4, if_neg c6_5, if_neg c6_100, if_neg c6_101, if_neg c6_102, if_neg c6_103, if_neg c6_104, if_neg c6_105, if_neg c6_106, if_neg c6_107, if_neg c6_108, if_neg c6_109, if_neg c6_110, if_neg c6_200, if_neg c6_201, if_neg c6_202, if_neg c6_300, if_neg c6_301, if_neg c6_302, if_neg c6_303, if_neg c6_304, if_neg c6_305, if_neg c6_400, if_neg c6_401, if_neg c6_402, if_neg c6_403, if_neg c6_404, if_neg c6_405, if_neg c6_406, if_neg c6_407, if_neg c6_500, if_neg c6_501, if_neg c6_502, if_neg c6_503, if_neg c6_504, if_neg c6_505])), ht⟩) (fun _ h9 => absurd h9 List.not_mem_nil) dX11_letterOf_365
  by_cases c6_500 : (nI ((100 * j) + k)) = 500
  · refine lv_lookup (off := 369) (tgt := 375) hx hb dX11_letterOf_6 (by decide) (by rw [c6_500]; decide) (by decide) ?_
    refine lv_bipush (v := 99) hx hb dX11_letterOf_375 (by decide) ?_
    exact W.iret (v := 99) hx hb hr (fun t ht hW => ⟨99, rfl, (by show (99 : Int32) = ftLt (nI (100 * j + k)); first | (rw [c6_0]; rfl) | (rw [c6_1]; rfl) | (rw [c6_2]; rfl) | (rw [c6_3]; rfl) | (rw [c6_4]; rfl) | (rw [c6_5]; rfl) | (rw [c6_100]; rfl) | (rw [c6_101]; rfl) | (rw [c6_102]; rfl) | (rw [c6_103]; rfl) | (rw [c6_104]; rfl) | (rw [c6_105]; rfl) | (rw [c6_106]; rfl) | (rw [c6_107]; rfl) | (rw [c6_108]; rfl) | (rw [c6_109]; rfl) | (rw [c6_110]; rfl) | (rw [c6_200]; rfl) | (rw [c6_201]; rfl) | (rw [c6_202]; rfl) | (rw [c6_300]; rfl) | (rw [c6_301]; rfl) | (rw [c6_302]; rfl) | (rw [c6_303]; rfl) | (rw [c6_304]; rfl) | (rw [c6_305]; rfl) | (rw [c6_400]; rfl) | (rw [c6_401]; rfl) | (rw [c6_402]; rfl) | (rw [c6_403]; rfl) | (rw [c6_404]; rfl) | (rw [c6_405]; rfl) | (rw [c6_406]; rfl) | (rw [c6_407]; rfl) | (rw [c6_500]; rfl) | (rw [c6_501]; rfl) | (rw [c6_502]; rfl) | (rw [c6_503]; rfl) | (rw [c6_504]; rfl) | (rw [c6_505]; rfl) | (unfold ftLt; rw [if_neg c6_0, if_neg c6_1, if_neg c6_2, if_neg c6_3, if_neg c6_4, if_neg c6_5, if_neg c6_100, if_neg c6_101, if_neg c6_102, if_neg c6_103, if_neg c6_104, if_neg c6_105, if_neg c6_106, if_neg c6_107, if_neg c6_108, if_neg c6_109, if_neg c6_110, if_neg c6_200, if_neg c6_201, if_neg c6_202, if_neg c6_300, if_neg c6_301, if_neg c6_302, if_neg c6_303, if_neg c6_304, if_neg c6_305, if_neg c6_400, if_neg c6_401, if_neg c6_402, if_neg c6_403, if_neg c6_404, if_neg c6_405, if_neg c6_406, if_neg c6_407, if_neg c6_500, if_neg c6_501, if_neg c6_502, if_neg c6_503, if_neg c6_504, if_neg c6_505])), ht⟩) (fun _ h9 => absurd h9 List.not_mem_nil) dX11_letterOf_377
  by_cases c6_501 : (nI ((100 * j) + k)) = 501
  · refine lv_lookup (off := 345) (tgt := 351) hx hb dX11_letterOf_6 (by decide) (by rw [c6_501]; decide) (by decide) ?_
    refine lv_bipush (v := 104) hx hb dX11_letterOf_351 (by decide) ?_
    exact W.iret (v := 104) hx hb hr (fun t ht hW => ⟨104, rfl, (by show (104 : Int32) = ftLt (nI (100 * j + k)); first | (rw [c6_0]; rfl) | (rw [c6_1]; rfl) | (rw [c6_2]; rfl) | (rw [c6_3]; rfl) | (rw [c6_4]; rfl) | (rw [c6_5]; rfl) | (rw [c6_100]; rfl) | (rw [c6_101]; rfl) | (rw [c6_102]; rfl) | (rw [c6_103]; rfl) | (rw [c6_104]; rfl) | (rw [c6_105]; rfl) | (rw [c6_106]; rfl) | (rw [c6_107]; rfl) | (rw [c6_108]; rfl) | (rw [c6_109]; rfl) | (rw [c6_110]; rfl) | (rw [c6_200]; rfl) | (rw [c6_201]; rfl) | (rw [c6_202]; rfl) | (rw [c6_300]; rfl) | (rw [c6_301]; rfl) | (rw [c6_302]; rfl) | (rw [c6_303]; rfl) | (rw [c6_304]; rfl) | (rw [c6_305]; rfl) | (rw [c6_400]; rfl) | (rw [c6_401]; rfl) | (rw [c6_402]; rfl) | (rw [c6_403]; rfl) | (rw [c6_404]; rfl) | (rw [c6_405]; rfl) | (rw [c6_406]; rfl) | (rw [c6_407]; rfl) | (rw [c6_500]; rfl) | (rw [c6_501]; rfl) | (rw [c6_502]; rfl) | (rw [c6_503]; rfl) | (rw [c6_504]; rfl) | (rw [c6_505]; rfl) | (unfold ftLt; rw [if_neg c6_0, if_neg c6_1, if_neg c6_2, if_neg c6_3, if_neg c6_4, if_neg c6_5, if_neg c6_100, if_neg c6_101, if_neg c6_102, if_neg c6_103, if_neg c6_104, if_neg c6_105, if_neg c6_106, if_neg c6_107, if_neg c6_108, if_neg c6_109, if_neg c6_110, if_neg c6_200, if_neg c6_201, if_neg c6_202, if_neg c6_300, if_neg c6_301, if_neg c6_302, if_neg c6_303, if_neg c6_304, if_neg c6_305, if_neg c6_400, if_neg c6_401, if_neg c6_402, if_neg c6_403, if_neg c6_404, if_neg c6_405, if_neg c6_406, if_neg c6_407, if_neg c6_500, if_neg c6_501, if_neg c6_502, if_neg c6_503, if_neg c6_504, if_neg c6_505])), ht⟩) (fun _ h9 => absurd h9 List.not_mem_nil) dX11_letterOf_353
  by_cases c6_502 : (nI ((100 * j) + k)) = 502
  · refine lv_lookup (off := 348) (tgt := 354) hx hb dX11_letterOf_6 (by decide) (by rw [c6_502]; decide) (by decide) ?_
    refine lv_bipush (v := 97) hx hb dX11_letterOf_354 (by decide) ?_
    exact W.iret (v := 97) hx hb hr (fun t ht hW => ⟨97, rfl, (by show (97 : Int32) = ftLt (nI (100 * j + k)); first | (rw [c6_0]; rfl) | (rw [c6_1]; rfl) | (rw [c6_2]; rfl) | (rw [c6_3]; rfl) | (rw [c6_4]; rfl) | (rw [c6_5]; rfl) | (rw [c6_100]; rfl) | (rw [c6_101]; rfl) | (rw [c6_102]; rfl) | (rw [c6_103]; rfl) | (rw [c6_104]; rfl) | (rw [c6_105]; rfl) | (rw [c6_106]; rfl) | (rw [c6_107]; rfl) | (rw [c6_108]; rfl) | (rw [c6_109]; rfl) | (rw [c6_110]; rfl) | (rw [c6_200]; rfl) | (rw [c6_201]; rfl) | (rw [c6_202]; rfl) | (rw [c6_300]; rfl) | (rw [c6_301]; rfl) | (rw [c6_302]; rfl) | (rw [c6_303]; rfl) | (rw [c6_304]; rfl) | (rw [c6_305]; rfl) | (rw [c6_400]; rfl) | (rw [c6_401]; rfl) | (rw [c6_402]; rfl) | (rw [c6_403]; rfl) | (rw [c6_404]; rfl) | (rw [c6_405]; rfl) | (rw [c6_406]; rfl) | (rw [c6_407]; rfl) | (rw [c6_500]; rfl) | (rw [c6_501]; rfl) | (rw [c6_502]; rfl) | (rw [c6_503]; rfl) | (rw [c6_504]; rfl) | (rw [c6_505]; rfl) | (unfold ftLt; rw [if_neg c6_0, if_neg c6_1, if_neg c6_2, if_neg c6_3, if_neg c6_4, if_neg c6_5, if_neg c6_100, if_neg c6_101, if_neg c6_102, if_neg c6_103, if_neg c6_104, if_neg c6_105, if_neg c6_106, if_neg c6_107, if_neg c6_108, if_neg c6_109, if_neg c6_110, if_neg c6_200, if_neg c6_201, if_neg c6_202, if_neg c6_300, if_neg c6_301, if_neg c6_302, if_neg c6_303, if_neg c6_304, if_neg c6_305, if_neg c6_400, if_neg c6_401, if_neg c6_402, if_neg c6_403, if_neg c6_404, if_neg c6_405, if_neg c6_406, if_neg c6_407, if_neg c6_500, if_neg c6_501, if_neg c6_502, if_neg c6_503, if_neg c6_504, if_neg c6_505])), ht⟩) (fun _ h9 => absurd h9 List.not_mem_nil) dX11_letterOf_356
  by_cases c6_503 : (nI ((100 * j) + k)) = 503
  · refine lv_lookup (off := 336) (tgt := 342) hx hb dX11_letterOf_6 (by decide) (by rw [c6_503]; decide) (by decide) ?_
    refine lv_bipush (v := 110) hx hb dX11_letterOf_342 (by decide) ?_
    exact W.iret (v := 110) hx hb hr (fun t ht hW => ⟨110, rfl, (by show (110 : Int32) = ftLt (nI (100 * j + k)); first | (rw [c6_0]; rfl) | (rw [c6_1]; rfl) | (rw [c6_2]; rfl) | (rw [c6_3]; rfl) | (rw [c6_4]; rfl) | (rw [c6_5]; rfl) | (rw [c6_100]; rfl) | (rw [c6_101]; rfl) | (rw [c6_102]; rfl) | (rw [c6_103]; rfl) | (rw [c6_104]; rfl) | (rw [c6_105]; rfl) | (rw [c6_106]; rfl) | (rw [c6_107]; rfl) | (rw [c6_108]; rfl) | (rw [c6_109]; rfl) | (rw [c6_110]; rfl) | (rw [c6_200]; rfl) | (rw [c6_201]; rfl) | (rw [c6_202]; rfl) | (rw [c6_300]; rfl) | (rw [c6_301]; rfl) | (rw [c6_302]; rfl) | (rw [c6_303]; rfl) | (rw [c6_304]; rfl) | (rw [c6_305]; rfl) | (rw [c6_400]; rfl) | (rw [c6_401]; rfl) | (rw [c6_402]; rfl) | (rw [c6_403]; rfl) | (rw [c6_404]; rfl) | (rw [c6_405]; rfl) | (rw [c6_406]; rfl) | (rw [c6_407]; rfl) | (rw [c6_500]; rfl) | (rw [c6_501]; rfl) | (rw [c6_502]; rfl) | (rw [c6_503]; rfl) | (rw [c6_504]; rfl) | (rw [c6_505]; rfl) | (unfold ftLt; rw [if_neg c6_0, if_neg c6_1, if_neg c6_2, if_neg c6_3, if_neg c6_4, if_neg c6_5, if_neg c6_100, if_neg c6_101, if_neg c6_102, if_neg c6_103, if_neg c6_104, if_neg c6_105, if_neg c6_106, if_neg c6_107, if_neg c6_108, if_neg c6_109, if_neg c6_110, if_neg c6_200, if_neg c6_201, if_neg c6_202, if_neg c6_300, if_neg c6_301, if_neg c6_302, if_neg c6_303, if_neg c6_304, if_neg c6_305, if_neg c6_400, if_neg c6_401, if_neg c6_402, if_neg c6_403, if_neg c6_404, if_neg c6_405, if_neg c6_406, if_neg c6_407, if_neg c6_500, if_neg c6_501, if_neg c6_502, if_neg c6_503, if_neg c6_504, if_neg c6_505])), ht⟩) (fun _ h9 => absurd h9 List.not_mem_nil) dX11_letterOf_344
  by_cases c6_504 : (nI ((100 * j) + k)) = 504
  · refine lv_lookup (off := 339) (tgt := 345) hx hb dX11_letterOf_6 (by decide) (by rw [c6_504]; decide) (by decide) ?_
    refine lv_bipush (v := 103) hx hb dX11_letterOf_345 (by decide) ?_
    exact W.iret (v := 103) hx hb hr (fun t ht hW => ⟨103, rfl, (by show (103 : Int32) = ftLt (nI (100 * j + k)); first | (rw [c6_0]; rfl) | (rw [c6_1]; rfl) | (rw [c6_2]; rfl) | (rw [c6_3]; rfl) | (rw [c6_4]; rfl) | (rw [c6_5]; rfl) | (rw [c6_100]; rfl) | (rw [c6_101]; rfl) | (rw [c6_102]; rfl) | (rw [c6_103]; rfl) | (rw [c6_104]; rfl) | (rw [c6_105]; rfl) | (rw [c6_106]; rfl) | (rw [c6_107]; rfl) | (rw [c6_108]; rfl) | (rw [c6_109]; rfl) | (rw [c6_110]; rfl) | (rw [c6_200]; rfl) | (rw [c6_201]; rfl) | (rw [c6_202]; rfl) | (rw [c6_300]; rfl) | (rw [c6_301]; rfl) | (rw [c6_302]; rfl) | (rw [c6_303]; rfl) | (rw [c6_304]; rfl) | (rw [c6_305]; rfl) | (rw [c6_400]; rfl) | (rw [c6_401]; rfl) | (rw [c6_402]; rfl) | (rw [c6_403]; rfl) | (rw [c6_404]; rfl) | (rw [c6_405]; rfl) | (rw [c6_406]; rfl) | (rw [c6_407]; rfl) | (rw [c6_500]; rfl) | (rw [c6_501]; rfl) | (rw [c6_502]; rfl) | (rw [c6_503]; rfl) | (rw [c6_504]; rfl) | (rw [c6_505]; rfl) | (unfold ftLt; rw [if_neg c6_0, if_neg c6_1, if_neg c6_2, if_neg c6_3, if_neg c6_4, if_neg c6_5, if_neg c6_100, if_neg c6_101, if_neg c6_102, if_neg c6_103, if_neg c6_104, if_neg c6_105, if_neg c6_106, if_neg c6_107, if_neg c6_108, if_neg c6_109, if_neg c6_110, if_neg c6_200, if_neg c6_201, if_neg c6_202, if_neg c6_300, if_neg c6_301, if_neg c6_302, if_neg c6_303, if_neg c6_304, if_neg c6_305, if_neg c6_400, if_neg c6_401, if_neg c6_402, if_neg c6_403, if_neg c6_404, if_neg c6_405, if_neg c6_406, if_neg c6_407, if_neg c6_500, if_neg c6_501, if_neg c6_502, if_neg c6_503, if_neg c6_504, if_neg c6_505])), ht⟩) (fun _ h9 => absurd h9 List.not_mem_nil) dX11_letterOf_347
  by_cases c6_505 : (nI ((100 * j) + k)) = 505
  · refine lv_lookup (off := 333) (tgt := 339) hx hb dX11_letterOf_6 (by decide) (by rw [c6_505]; decide) (by decide) ?_
    refine lv_bipush (v := 101) hx hb dX11_letterOf_339 (by decide) ?_
    exact W.iret (v := 101) hx hb hr (fun t ht hW => ⟨101, rfl, (by show (101 : Int32) = ftLt (nI (100 * j + k)); first | (rw [c6_0]; rfl) | (rw [c6_1]; rfl) | (rw [c6_2]; rfl) | (rw [c6_3]; rfl) | (rw [c6_4]; rfl) | (rw [c6_5]; rfl) | (rw [c6_100]; rfl) | (rw [c6_101]; rfl) | (rw [c6_102]; rfl) | (rw [c6_103]; rfl) | (rw [c6_104]; rfl) | (rw [c6_105]; rfl) | (rw [c6_106]; rfl) | (rw [c6_107]; rfl) | (rw [c6_108]; rfl) | (rw [c6_109]; rfl) | (rw [c6_110]; rfl) | (rw [c6_200]; rfl) | (rw [c6_201]; rfl) | (rw [c6_202]; rfl) | (rw [c6_300]; rfl) | (rw [c6_301]; rfl) | (rw [c6_302]; rfl) | (rw [c6_303]; rfl) | (rw [c6_304]; rfl) | (rw [c6_305]; rfl) | (rw [c6_400]; rfl) | (rw [c6_401]; rfl) | (rw [c6_402]; rfl) | (rw [c6_403]; rfl) | (rw [c6_404]; rfl) | (rw [c6_405]; rfl) | (rw [c6_406]; rfl) | (rw [c6_407]; rfl) | (rw [c6_500]; rfl) | (rw [c6_501]; rfl) | (rw [c6_502]; rfl) | (rw [c6_503]; rfl) | (rw [c6_504]; rfl) | (rw [c6_505]; rfl) | (unfold ftLt; rw [if_neg c6_0, if_neg c6_1, if_neg c6_2, if_neg c6_3, if_neg c6_4, if_neg c6_5, if_neg c6_100, if_neg c6_101, if_neg c6_102, if_neg c6_103, if_neg c6_104, if_neg c6_105, if_neg c6_106, if_neg c6_107, if_neg c6_108, if_neg c6_109, if_neg c6_110, if_neg c6_200, if_neg c6_201, if_neg c6_202, if_neg c6_300, if_neg c6_301, if_neg c6_302, if_neg c6_303, if_neg c6_304, if_neg c6_305, if_neg c6_400, if_neg c6_401, if_neg c6_402, if_neg c6_403, if_neg c6_404, if_neg c6_405, if_neg c6_406, if_neg c6_407, if_neg c6_500, if_neg c6_501, if_neg c6_502, if_neg c6_503, if_neg c6_504, if_neg c6_505])), ht⟩) (fun _ h9 => absurd h9 List.not_mem_nil) dX11_letterOf_341
  have c6_0i := lv_neT (a := 0) c6_0 (by decide)
  have c6_1i := lv_neT (a := 1) c6_1 (by decide)
  have c6_2i := lv_neT (a := 2) c6_2 (by decide)
  have c6_3i := lv_neT (a := 3) c6_3 (by decide)
  have c6_4i := lv_neT (a := 4) c6_4 (by decide)
  have c6_5i := lv_neT (a := 5) c6_5 (by decide)
  have c6_100i := lv_neT (a := 100) c6_100 (by decide)
  have c6_101i := lv_neT (a := 101) c6_101 (by decide)
  have c6_102i := lv_neT (a := 102) c6_102 (by decide)
  have c6_103i := lv_neT (a := 103) c6_103 (by decide)
  have c6_104i := lv_neT (a := 104) c6_104 (by decide)
  have c6_105i := lv_neT (a := 105) c6_105 (by decide)
  have c6_106i := lv_neT (a := 106) c6_106 (by decide)
  have c6_107i := lv_neT (a := 107) c6_107 (by decide)
  have c6_108i := lv_neT (a := 108) c6_108 (by decide)
  have c6_109i := lv_neT (a := 109) c6_109 (by decide)
  have c6_110i := lv_neT (a := 110) c6_110 (by decide)
  have c6_200i := lv_neT (a := 200) c6_200 (by decide)
  have c6_201i := lv_neT (a := 201) c6_201 (by decide)
  have c6_202i := lv_neT (a := 202) c6_202 (by decide)
  have c6_300i := lv_neT (a := 300) c6_300 (by decide)
  have c6_301i := lv_neT (a := 301) c6_301 (by decide)
  have c6_302i := lv_neT (a := 302) c6_302 (by decide)
  have c6_303i := lv_neT (a := 303) c6_303 (by decide)
  have c6_304i := lv_neT (a := 304) c6_304 (by decide)
  have c6_305i := lv_neT (a := 305) c6_305 (by decide)
  have c6_400i := lv_neT (a := 400) c6_400 (by decide)
  have c6_401i := lv_neT (a := 401) c6_401 (by decide)
  have c6_402i := lv_neT (a := 402) c6_402 (by decide)
  have c6_403i := lv_neT (a := 403) c6_403 (by decide)
  have c6_404i := lv_neT (a := 404) c6_404 (by decide)
  have c6_405i := lv_neT (a := 405) c6_405 (by decide)
  have c6_406i := lv_neT (a := 406) c6_406 (by decide)
  have c6_407i := lv_neT (a := 407) c6_407 (by decide)
  have c6_500i := lv_neT (a := 500) c6_500 (by decide)
  have c6_501i := lv_neT (a := 501) c6_501 (by decide)
  have c6_502i := lv_neT (a := 502) c6_502 (by decide)
  have c6_503i := lv_neT (a := 503) c6_503 (by decide)
  have c6_504i := lv_neT (a := 504) c6_504 (by decide)
  have c6_505i := lv_neT (a := 505) c6_505 (by decide)
  refine lv_lookup (off := 372) (tgt := 378) hx hb dX11_letterOf_6 (by decide) (by simp [Op.lookupswitch.offset, c6_0i, Ne.symm c6_0i, c6_1i, Ne.symm c6_1i, c6_2i, Ne.symm c6_2i, c6_3i, Ne.symm c6_3i, c6_4i, Ne.symm c6_4i, c6_5i, Ne.symm c6_5i, c6_100i, Ne.symm c6_100i, c6_101i, Ne.symm c6_101i, c6_102i, Ne.symm c6_102i, c6_103i, Ne.symm c6_103i, c6_104i, Ne.symm c6_104i, c6_105i, Ne.symm c6_105i, c6_106i, Ne.symm c6_106i, c6_107i, Ne.symm c6_107i, c6_108i, Ne.symm c6_108i, c6_109i, Ne.symm c6_109i, c6_110i, Ne.symm c6_110i, c6_200i, Ne.symm c6_200i, c6_201i, Ne.symm c6_201i, c6_202i, Ne.symm c6_202i, c6_300i, Ne.symm c6_300i, c6_301i, Ne.symm c6_301i, c6_302i, Ne.symm c6_302i, c6_303i, Ne.symm c6_303i, c6_304i, Ne.symm c6_304i, c6_305i, Ne.symm c6_305i, c6_400i, Ne.symm c6_400i, c6_401i, Ne.symm c6_401i, c6_402i, Ne.symm c6_402i, c6_403i, Ne.symm c6_403i, c6_404i, Ne.symm c6_404i, c6_405i, Ne.symm c6_405i, c6_406i, Ne.symm c6_406i, c6_407i, Ne.symm c6_407i, c6_500i, Ne.symm c6_500i, c6_501i, Ne.symm c6_501i, c6_502i, Ne.symm c6_502i, c6_503i, Ne.symm c6_503i, c6_504i, Ne.symm c6_504i, c6_505i, Ne.symm c6_505i]) (by decide) ?_
  refine lv_bipush (v := 114) hx hb dX11_letterOf_378 (by decide) ?_
  exact W.iret (v := 114) hx hb hr (fun t ht hW => ⟨114, rfl, (by show (114 : Int32) = ftLt (nI (100 * j + k)); first | (rw [c6_0]; rfl) | (rw [c6_1]; rfl) | (rw [c6_2]; rfl) | (rw [c6_3]; rfl) | (rw [c6_4]; rfl) | (rw [c6_5]; rfl) | (rw [c6_100]; rfl) | (rw [c6_101]; rfl) | (rw [c6_102]; rfl) | (rw [c6_103]; rfl) | (rw [c6_104]; rfl) | (rw [c6_105]; rfl) | (rw [c6_106]; rfl) | (rw [c6_107]; rfl) | (rw [c6_108]; rfl) | (rw [c6_109]; rfl) | (rw [c6_110]; rfl) | (rw [c6_200]; rfl) | (rw [c6_201]; rfl) | (rw [c6_202]; rfl) | (rw [c6_300]; rfl) | (rw [c6_301]; rfl) | (rw [c6_302]; rfl) | (rw [c6_303]; rfl) | (rw [c6_304]; rfl) | (rw [c6_305]; rfl) | (rw [c6_400]; rfl) | (rw [c6_401]; rfl) | (rw [c6_402]; rfl) | (rw [c6_403]; rfl) | (rw [c6_404]; rfl) | (rw [c6_405]; rfl) | (rw [c6_406]; rfl) | (rw [c6_407]; rfl) | (rw [c6_500]; rfl) | (rw [c6_501]; rfl) | (rw [c6_502]; rfl) | (rw [c6_503]; rfl) | (rw [c6_504]; rfl) | (rw [c6_505]; rfl) | (unfold ftLt; rw [if_neg c6_0, if_neg c6_1, if_neg c6_2, if_neg c6_3, if_neg c6_4, if_neg c6_5, if_neg c6_100, if_neg c6_101, if_neg c6_102, if_neg c6_103, if_neg c6_104, if_neg c6_105, if_neg c6_106, if_neg c6_107, if_neg c6_108, if_neg c6_109, if_neg c6_110, if_neg c6_200, if_neg c6_201, if_neg c6_202, if_neg c6_300, if_neg c6_301, if_neg c6_302, if_neg c6_303, if_neg c6_304, if_neg c6_305, if_neg c6_400, if_neg c6_401, if_neg c6_402, if_neg c6_403, if_neg c6_404, if_neg c6_405, if_neg c6_406, if_neg c6_407, if_neg c6_500, if_neg c6_501, if_neg c6_502, if_neg c6_503, if_neg c6_504, if_neg c6_505])), ht⟩) (fun _ h9 => absurd h9 List.not_mem_nil) dX11_letterOf_380
set_option maxHeartbeats 4000000 in
set_option maxRecDepth 100000 in
theorem c_X11_readsWord (l : Launch) (D : va_G) (cI cS : ClassId) (sz : Nat) (m0 p0 p1 p3 p5 p10 p12 p13 p14 p16 p17 p19 p20 p21 p22 p25 p26 p27 p28 p29 p30 p31 p32 : Nat) (i2 i7 i8 i9 i11 i15 i18 i23 i24 : Int32) (tx : Nat → Int32) (tn sp : Nat) (htn : tn ≤ 120) (hp9 : sp ≤ tn) : Met l yX11_readsWord wsX11_readsWord ({ frames := 1, cells := 0, slots := 0, locals := 25 }) (ftRW D cI cS [.ref m0] [(m0, .inr (11, [.ref p0, .ref p1, .int i2, .ref p3, .int (nI tn), .ref p5, .int (nI sp), .int i7, .int i8, .int i9, .ref p10, .int i11, .ref p12, .ref p13, .ref p14, .int i15, .ref p16, .ref p17, .int i18, .ref p19, .ref p20, .ref p21, .ref p22, .int i23, .int i24, .ref p25, .ref p26, .ref p27, .ref p28, .ref p29, .ref p30, .ref p31, .ref p32])), (p3, .inl (cI, 120, .inl tx))] sz) (ftQi D (ftWd tx sp (ftRun tx tn sp) 6) [(m0, .inr (11, [.ref p0, .ref p1, .int i2, .ref p3, .int (nI tn), .ref p5, .int (nI sp), .int i7, .int i8, .int i9, .ref p10, .int i11, .ref p12, .ref p13, .ref p14, .int i15, .ref p16, .ref p17, .int i18, .ref p19, .ref p20, .ref p21, .ref p22, .int i23, .int i24, .ref p25, .ref p26, .ref p27, .ref p28, .ref p29, .ref p30, .ref p31, .ref p32])), (p3, .inl (cI, 120, .inl tx))] [(m0, .inr (11, [.ref p0, .ref p1, .int i2, .ref p3, .int (nI tn), .ref p5, .int (nI (sp + ftRun tx tn sp)), .int i7, .int i8, .int i9, .ref p10, .int i11, .ref p12, .ref p13, .ref p14, .int i15, .ref p16, .ref p17, .int i18, .ref p19, .ref p20, .ref p21, .ref p22, .int i23, .int i24, .ref p25, .ref p26, .ref p27, .ref p28, .ref p29, .ref p30, .ref p31, .ref p32])), (p3, .inl (cI, 120, .inl tx))] sz) 0 0 (va_A [(m0, .inr (11, [.ref p0, .ref p1, .int i2, .ref p3, .int (nI tn), .ref p5, .int (nI sp), .int i7, .int i8, .int i9, .ref p10, .int i11, .ref p12, .ref p13, .ref p14, .int i15, .ref p16, .ref p17, .int i18, .ref p19, .ref p20, .ref p21, .ref p22, .int i23, .int i24, .ref p25, .ref p26, .ref p27, .ref p28, .ref p29, .ref p30, .ref p31, .ref p32])), (p3, .inl (cI, 120, .inl tx))] sz) := by
  refine Met.ofW (cc := cX11_readsWord) (maxL := 6) (ret := (some .int)) (by decide) rfl ?_
  intro p e s m args below meth c s₁ B hml hv
  obtain ⟨rfl, hsz, hP, hKK, hD0⟩ := hv
  have hK := hKK.1
  have hx := B.exec
  have hb := B.bytes
  have hr := B.returns
  have hts := atoms_spec (ws := wsX11_readsWord) B.pre
  have hown : s.vm.findClass RX11 = some m.cls := findClass_of_methodNamed B.named
  have hlocks := B.notSynchronized
  subst hsz
  have hD := hD0.self (sz := s.heap.size)
  generalize hAe : va_A [(m0, .inr (11, [.ref p0, .ref p1, .int i2, .ref p3, .int (nI tn), .ref p5, .int (nI sp), .int i7, .int i8, .int i9, .ref p10, .int i11, .ref p12, .ref p13, .ref p14, .int i15, .ref p16, .ref p17, .int i18, .ref p19, .ref p20, .ref p21, .ref p22, .int i23, .int i24, .ref p25, .ref p26, .ref p27, .ref p28, .ref p29, .ref p30, .ref p31, .ref p32])), (p3, .inl (cI, 120, .inl tx))] s.heap.size = A at hD ⊢
  have hA : ∀ q : Nat, s.heap.size ≤ q → A q := fun q h => by rw [← hAe]; exact Or.inr h
  have hS : va_S A s.heap s.heap [] := va_S.rf
  have hD : va_D A [(m0, .inr (11, [.ref p0, .ref p1, .int i2, .ref p3, .int (nI tn), .ref p5, .int (nI sp), .int i7, .int i8, .int i9, .ref p10, .int i11, .ref p12, .ref p13, .ref p14, .int i15, .ref p16, .ref p17, .int i18, .ref p19, .ref p20, .ref p21, .ref p22, .int i23, .int i24, .ref p25, .ref p26, .ref p27, .ref p28, .ref p29, .ref p30, .ref p31, .ref p32])), (p3, .inl (cI, 120, .inl tx))] := hD
  have hP : va_P D vwCl [(m0, .inr (11, [.ref p0, .ref p1, .int i2, .ref p3, .int (nI tn), .ref p5, .int (nI sp), .int i7, .int i8, .int i9, .ref p10, .int i11, .ref p12, .ref p13, .ref p14, .int i15, .ref p16, .ref p17, .int i18, .ref p19, .ref p20, .ref p21, .ref p22, .int i23, .int i24, .ref p25, .ref p26, .ref p27, .ref p28, .ref p29, .ref p30, .ref p31, .ref p32])), (p3, .inl (cI, 120, .inl tx))] s.heap := hP
  have hl := lv_entry ([.ref m0]) (n := 6) (Nat.le_of_ble_eq_true rfl)
  rw [lg_entry_eq]
  generalize (lg_sl ([.ref m0]) ++ List.replicate (6 - (lg_sl ([.ref m0])).length) Slot.unset).toArray = ls at hl ⊢
  have hl : lv_has ls 6 [(0, .ref m0)] := hl
  refine lv_aload_n hx hb dX11_readsWord_0 rfl (lv_at hl 0 rfl) ?_
  refine va_get (D := D) (ci := 11) (v := .int (nI sp)) (C := RX11) (T := TX11) (N := 33) hx hb hts (by decide +kernel) hown hK hP 0 rfl rfl 6 (by decide) (hts (.fieldLink RX11 100 "FiberTraceModel" "spot" "I") (by decide +kernel)) (fun _ h9 => h9) rfl dX11_readsWord_1 ?_
  refine lv_istore_n (lv' := [(1, .int (nI sp)), (0, .ref m0)]) hx hb dX11_readsWord_4 rfl hl (by decide) rfl (fun ls hl => ?_)
  have lp5 : ∀ (n5 : Nat) (r : Nat) (g5_m0_6 : Int32), tn - r < n5 → (sp ≤ r) → (r ≤ tn) → (∀ t, t < r - sp → sp + t < tn ∧ 97 ≤ tx (sp + t) ∧ tx (sp + t) ≤ 122) → g5_m0_6 = nI r → ∀ (H : Heap) (locs : List Loc), va_P D vwCl [(m0, .inr (11, [.ref p0, .ref p1, .int i2, .ref p3, .int (nI tn), .ref p5, .int g5_m0_6, .int i7, .int i8, .int i9, .ref p10, .int i11, .ref p12, .ref p13, .ref p14, .int i15, .ref p16, .ref p17, .int i18, .ref p19, .ref p20, .ref p21, .ref p22, .int i23, .int i24, .ref p25, .ref p26, .ref p27, .ref p28, .ref p29, .ref p30, .ref p31, .ref p32])), (p3, .inl (cI, 120, .inl tx))] H → va_D A [(m0, .inr (11, [.ref p0, .ref p1, .int i2, .ref p3, .int (nI tn), .ref p5, .int g5_m0_6, .int i7, .int i8, .int i9, .ref p10, .int i11, .ref p12, .ref p13, .ref p14, .int i15, .ref p16, .ref p17, .int i18, .ref p19, .ref p20, .ref p21, .ref p22, .int i23, .int i24, .ref p25, .ref p26, .ref p27, .ref p28, .ref p29, .ref p30, .ref p31, .ref p32])), (p3, .inl (cI, 120, .inl tx))] → va_S A s.heap H locs → ∀ ls : Array Slot, lv_has ls 6 [(0, .ref m0), (1, .int (nI sp))] → W p l e (headSpec wsX11_readsWord { frames := 1, cells := 0, slots := 0, locals := 25 }).room s m ([.ref m0] : List Value).toArray below meth c H locs 0 0 (MQ below (ftQi D (ftWd tx sp (ftRun tx tn sp) 6) [(m0, .inr (11, [.ref p0, .ref p1, .int i2, .ref p3, .int (nI tn), .ref p5, .int (nI sp), .int i7, .int i8, .int i9, .ref p10, .int i11, .ref p12, .ref p13, .ref p14, .int i15, .ref p16, .ref p17, .int i18, .ref p19, .ref p20, .ref p21, .ref p22, .int i23, .int i24, .ref p25, .ref p26, .ref p27, .ref p28, .ref p29, .ref p30, .ref p31, .ref p32])), (p3, .inl (cI, 120, .inl tx))] [(m0, .inr (11, [.ref p0, .ref p1, .int i2, .ref p3, .int (nI tn), .ref p5, .int (nI (sp + ftRun tx tn sp)), .int i7, .int i8, .int i9, .ref p10, .int i11, .ref p12, .ref p13, .ref p14, .int i15, .ref p16, .ref p17, .int i18, .ref p19, .ref p20, .ref p21, .ref p22, .int i23, .int i24, .ref p25, .ref p26, .ref p27, .ref p28, .ref p29, .ref p30, .ref p31, .ref p32])), (p3, .inl (cI, 120, .inl tx))] s.heap.size) ([.ref m0] : List Value).toArray s 0 0 A) (F0 m 5 ls []) := by
    intro n5
    induction n5 with
    | zero =>
      intro r  g5_m0_6 hm5
      exact absurd hm5 (Nat.not_lt_zero _)
    | succ n5 ih5 =>
      intro r  g5_m0_6 hm5 hpr hrn hall  eg5_m0_6 H locs hP hD hS ls hl
      subst eg5_m0_6
      refine lv_aload_n hx hb dX11_readsWord_5 rfl (lv_at hl 0 rfl) ?_
      refine va_get (D := D) (ci := 11) (v := .int (nI r)) (C := RX11) (T := TX11) (N := 33) hx hb hts (by decide +kernel) hown hK hP 0 rfl rfl 6 (by decide) (hts (.fieldLink RX11 100 "FiberTraceModel" "spot" "I") (by decide +kernel)) (fun _ h9 => h9) rfl dX11_readsWord_6 ?_
      refine lv_aload_n hx hb dX11_readsWord_9 rfl (lv_at hl 0 rfl) ?_
      refine va_get (D := D) (ci := 11) (v := .int (nI tn)) (C := RX11) (T := TX11) (N := 33) hx hb hts (by decide +kernel) hown hK hP 0 rfl rfl 4 (by decide) (hts (.fieldLink RX11 96 "FiberTraceModel" "length" "I") (by decide +kernel)) (fun _ h9 => h9) rfl dX11_readsWord_10 ?_
      refine lv_icmp_ge (tgt := 51) hx hb dX11_readsWord_13 (by decide) (fun c13 => ?_) (fun c13 => ?_)
      · have c13n : tn ≤ r := ft_leN (by omega) (by omega) c13
        have hrun : ftRun tx tn sp = r - sp := ftIni_of (by omega) hall (fun _ q => absurd q.1 (by omega))
        refine lv_iconst (v := (-1)) hx hb dX11_readsWord_51 (by decide) ?_
        refine lv_istore_n (lv' := [(2, .int (-1)), (0, .ref m0), (1, .int (nI sp))]) hx hb dX11_readsWord_52 rfl hl (by decide) rfl (fun ls hl => ?_)
        refine lv_iconst (v := 0) hx hb dX11_readsWord_53 (by decide) ?_
        refine lv_istore_n (lv' := [(3, .int 0), (2, .int (-1)), (0, .ref m0), (1, .int (nI sp))]) hx hb dX11_readsWord_54 rfl hl (by decide) rfl (fun ls hl => ?_)
        have lp55 : ∀ (n55 : Nat) (j : Nat) (x55_2 : Int32) (x55_3 : Int32), 6 - j < n55 → (j ≤ 6) → x55_2 = ftWd tx sp (r - sp) j → x55_3 = nI j → ∀ (H : Heap) (locs : List Loc), va_P D vwCl [(m0, .inr (11, [.ref p0, .ref p1, .int i2, .ref p3, .int (nI tn), .ref p5, .int (nI r), .int i7, .int i8, .int i9, .ref p10, .int i11, .ref p12, .ref p13, .ref p14, .int i15, .ref p16, .ref p17, .int i18, .ref p19, .ref p20, .ref p21, .ref p22, .int i23, .int i24, .ref p25, .ref p26, .ref p27, .ref p28, .ref p29, .ref p30, .ref p31, .ref p32])), (p3, .inl (cI, 120, .inl tx))] H → va_D A [(m0, .inr (11, [.ref p0, .ref p1, .int i2, .ref p3, .int (nI tn), .ref p5, .int (nI r), .int i7, .int i8, .int i9, .ref p10, .int i11, .ref p12, .ref p13, .ref p14, .int i15, .ref p16, .ref p17, .int i18, .ref p19, .ref p20, .ref p21, .ref p22, .int i23, .int i24, .ref p25, .ref p26, .ref p27, .ref p28, .ref p29, .ref p30, .ref p31, .ref p32])), (p3, .inl (cI, 120, .inl tx))] → va_S A s.heap H locs → ∀ ls : Array Slot, lv_has ls 6 [(0, .ref m0), (1, .int (nI sp)), (2, .int x55_2), (3, .int x55_3)] → W p l e (headSpec wsX11_readsWord { frames := 1, cells := 0, slots := 0, locals := 25 }).room s m ([.ref m0] : List Value).toArray below meth c H locs 0 0 (MQ below (ftQi D (ftWd tx sp (ftRun tx tn sp) 6) [(m0, .inr (11, [.ref p0, .ref p1, .int i2, .ref p3, .int (nI tn), .ref p5, .int (nI sp), .int i7, .int i8, .int i9, .ref p10, .int i11, .ref p12, .ref p13, .ref p14, .int i15, .ref p16, .ref p17, .int i18, .ref p19, .ref p20, .ref p21, .ref p22, .int i23, .int i24, .ref p25, .ref p26, .ref p27, .ref p28, .ref p29, .ref p30, .ref p31, .ref p32])), (p3, .inl (cI, 120, .inl tx))] [(m0, .inr (11, [.ref p0, .ref p1, .int i2, .ref p3, .int (nI tn), .ref p5, .int (nI (sp + ftRun tx tn sp)), .int i7, .int i8, .int i9, .ref p10, .int i11, .ref p12, .ref p13, .ref p14, .int i15, .ref p16, .ref p17, .int i18, .ref p19, .ref p20, .ref p21, .ref p22, .int i23, .int i24, .ref p25, .ref p26, .ref p27, .ref p28, .ref p29, .ref p30, .ref p31, .ref p32])), (p3, .inl (cI, 120, .inl tx))] s.heap.size) ([.ref m0] : List Value).toArray s 0 0 A) (F0 m 55 ls []) := by
          intro n55
          induction n55 with
          | zero =>
            intro j x55_2 x55_3  hm55
            exact absurd hm55 (Nat.not_lt_zero _)
          | succ n55 ih55 =>
            intro j x55_2 x55_3  hm55 hj6 ex55_2 ex55_3  H locs hP hD hS ls hl
            subst ex55_3
            refine lv_iload_n hx hb dX11_readsWord_55 rfl (lv_at hl 3 rfl) ?_
            refine lv_bipush (v := 6) hx hb dX11_readsWord_56 (by decide) ?_
            refine lv_icmp_ge (tgt := 146) hx hb dX11_readsWord_58 (by decide) (fun c58 => ?_) (fun c58 => ?_)
            · have c58n : 6 ≤ j := ft_leN (by omega) (by omega) c58
              refine lv_iload_n hx hb dX11_readsWord_146 rfl (lv_at hl 2 rfl) ?_
              have hw9 : ([(m0, .inr (11, [.ref p0, .ref p1, .int i2, .ref p3, .int (nI tn), .ref p5, .int (nI r), .int i7, .int i8, .int i9, .ref p10, .int i11, .ref p12, .ref p13, .ref p14, .int i15, .ref p16, .ref p17, .int i18, .ref p19, .ref p20, .ref p21, .ref p22, .int i23, .int i24, .ref p25, .ref p26, .ref p27, .ref p28, .ref p29, .ref p30, .ref p31, .ref p32])), (p3, .inl (cI, 120, .inl tx))] : va_W) = [(m0, .inr (11, [.ref p0, .ref p1, .int i2, .ref p3, .int (nI tn), .ref p5, .int (nI (sp + ftRun tx tn sp)), .int i7, .int i8, .int i9, .ref p10, .int i11, .ref p12, .ref p13, .ref p14, .int i15, .ref p16, .ref p17, .int i18, .ref p19, .ref p20, .ref p21, .ref p22, .int i23, .int i24, .ref p25, .ref p26, .ref p27, .ref p28, .ref p29, .ref p30, .ref p31, .ref p32])), (p3, .inl (cI, 120, .inl tx))] := by rw [hrun, show sp + (r - sp) = r by omega]
              rw [hw9] at hP hD
              exact W.iret (v := x55_2) hx hb hr (fun t ht hW => ⟨⟨x55_2, (), rfl, (by show (x55_2 : Int32) = ftWd tx sp (ftRun tx tn sp) 6; (obtain rfl : j = 6 := by omega); rw [hrun]; exact ex55_2), by rw [ht]; exact hP, by rw [hAe]; exact hD⟩, by rw [hAe]; exact hS.F ht⟩) hS.2.2 dX11_readsWord_147
            · have c58n : j < 6 := ft_nleN (by omega) (by omega) c58
              have hw11 := ftWs_le j
              refine lv_aload_n hx hb dX11_readsWord_61 rfl (lv_at hl 0 rfl) ?_
              refine va_get (D := D) (ci := 11) (v := .int (nI r)) (C := RX11) (T := TX11) (N := 33) hx hb hts (by decide +kernel) hown hK hP 0 rfl rfl 6 (by decide) (hts (.fieldLink RX11 100 "FiberTraceModel" "spot" "I") (by decide +kernel)) (fun _ h9 => h9) rfl dX11_readsWord_62 ?_
              refine lv_iload_n hx hb dX11_readsWord_65 rfl (lv_at hl 1 rfl) ?_
              refine lv_isub hx hb dX11_readsWord_66 ?_
              refine ft_top (y := nI (r - sp)) (ft_subN (a := r) (b := sp) (by omega)) ?_
              refine lv_iload_n hx hb dX11_readsWord_67 rfl (lv_at hl 3 rfl) ?_
              refine ft_csi (r := nI (ftWs j)) (va_runS (As := [.int (nI j)]) (rest := [.int (nI (r - sp))]) ⟨hx, hb, hml, hown, hts⟩ (c_X11_wordSize l D cI cS j (by omega)) (va_cwS 1 hts gX11_readsWord_X11_wordSize rfl rfl rfl (by decide +kernel) ⟨Nat.le_of_ble_eq_true rfl, Nat.le_of_ble_eq_true rfl⟩) (ft_preRO hP hKK [] rfl) rfl rfl hl.1 rfl (lv_room (Nat.le_of_ble_eq_true rfl)) dX11_readsWord_68 ⟨Nat.le_of_ble_eq_true rfl, Nat.le_of_ble_eq_true rfl⟩) ?_
              refine lv_icmp_ne (tgt := 78) hx hb dX11_readsWord_71 (by decide) (fun c71 => ?_) (fun c71 => ?_)
              · have c71n : (r - sp) ≠ (ftWs j) := ft_neN (by omega) (by omega) c71
                refine lv_iconst (v := 0) hx hb dX11_readsWord_78 (by decide) ?_
                refine lv_istore (lv' := [(4, .int 0), (0, .ref m0), (1, .int (nI sp)), (2, .int x55_2), (3, .int (nI j))]) hx hb dX11_readsWord_79 hl (by decide) rfl (fun ls hl => ?_)
                refine lv_iconst (v := 0) hx hb dX11_readsWord_81 (by decide) ?_
                refine lv_istore (lv' := [(5, .int 0), (4, .int 0), (0, .ref m0), (1, .int (nI sp)), (2, .int x55_2), (3, .int (nI j))]) hx hb dX11_readsWord_82 hl (by decide) rfl (fun ls hl => ?_)
                have lp84 : ∀ (n84 : Nat) (k : Nat) (x84_4 : Int32) (x84_5 : Int32), ftWs j - k < n84 → (k ≤ ftWs j) → x84_4 = ftB (ftWP tx sp (r - sp) j k) → x84_5 = nI k → ∀ (H : Heap) (locs : List Loc), va_P D vwCl [(m0, .inr (11, [.ref p0, .ref p1, .int i2, .ref p3, .int (nI tn), .ref p5, .int (nI r), .int i7, .int i8, .int i9, .ref p10, .int i11, .ref p12, .ref p13, .ref p14, .int i15, .ref p16, .ref p17, .int i18, .ref p19, .ref p20, .ref p21, .ref p22, .int i23, .int i24, .ref p25, .ref p26, .ref p27, .ref p28, .ref p29, .ref p30, .ref p31, .ref p32])), (p3, .inl (cI, 120, .inl tx))] H → va_D A [(m0, .inr (11, [.ref p0, .ref p1, .int i2, .ref p3, .int (nI tn), .ref p5, .int (nI r), .int i7, .int i8, .int i9, .ref p10, .int i11, .ref p12, .ref p13, .ref p14, .int i15, .ref p16, .ref p17, .int i18, .ref p19, .ref p20, .ref p21, .ref p22, .int i23, .int i24, .ref p25, .ref p26, .ref p27, .ref p28, .ref p29, .ref p30, .ref p31, .ref p32])), (p3, .inl (cI, 120, .inl tx))] → va_S A s.heap H locs → ∀ ls : Array Slot, lv_has ls 6 [(0, .ref m0), (1, .int (nI sp)), (2, .int x55_2), (3, .int (nI j)), (4, .int x84_4), (5, .int x84_5)] → W p l e (headSpec wsX11_readsWord { frames := 1, cells := 0, slots := 0, locals := 25 }).room s m ([.ref m0] : List Value).toArray below meth c H locs 0 0 (MQ below (ftQi D (ftWd tx sp (ftRun tx tn sp) 6) [(m0, .inr (11, [.ref p0, .ref p1, .int i2, .ref p3, .int (nI tn), .ref p5, .int (nI sp), .int i7, .int i8, .int i9, .ref p10, .int i11, .ref p12, .ref p13, .ref p14, .int i15, .ref p16, .ref p17, .int i18, .ref p19, .ref p20, .ref p21, .ref p22, .int i23, .int i24, .ref p25, .ref p26, .ref p27, .ref p28, .ref p29, .ref p30, .ref p31, .ref p32])), (p3, .inl (cI, 120, .inl tx))] [(m0, .inr (11, [.ref p0, .ref p1, .int i2, .ref p3, .int (nI tn), .ref p5, .int (nI (sp + ftRun tx tn sp)), .int i7, .int i8, .int i9, .ref p10, .int i11, .ref p12, .ref p13, .ref p14, .int i15, .ref p16, .ref p17, .int i18, .ref p19, .ref p20, .ref p21, .ref p22, .int i23, .int i24, .ref p25, .ref p26, .ref p27, .ref p28, .ref p29, .ref p30, .ref p31, .ref p32])), (p3, .inl (cI, 120, .inl tx))] s.heap.size) ([.ref m0] : List Value).toArray s 0 0 A) (F0 m 84 ls []) := by
                  intro n84
                  induction n84 with
                  | zero =>
                    intro k x84_4 x84_5  hm84
                    exact absurd hm84 (Nat.not_lt_zero _)
                  | succ n84 ih84 =>
                    intro k x84_4 x84_5  hm84 hks ex84_4 ex84_5  H locs hP hD hS ls hl
                    subst ex84_5
                    refine lv_iload hx hb dX11_readsWord_84 (lv_at hl 5 rfl) ?_
                    refine lv_iload_n hx hb dX11_readsWord_86 rfl (lv_at hl 3 rfl) ?_
                    refine ft_csi (r := nI (ftWs j)) (va_runS (As := [.int (nI j)]) (rest := [.int (nI k)]) ⟨hx, hb, hml, hown, hts⟩ (c_X11_wordSize l D cI cS j (by omega)) (va_cwS 1 hts gX11_readsWord_X11_wordSize rfl rfl rfl (by decide +kernel) ⟨Nat.le_of_ble_eq_true rfl, Nat.le_of_ble_eq_true rfl⟩) (ft_preRO hP hKK [] rfl) rfl rfl hl.1 rfl (lv_room (Nat.le_of_ble_eq_true rfl)) dX11_readsWord_87 ⟨Nat.le_of_ble_eq_true rfl, Nat.le_of_ble_eq_true rfl⟩) ?_
                    refine lv_icmp_ge (tgt := 129) hx hb dX11_readsWord_90 (by decide) (fun c90 => ?_) (fun c90 => ?_)
                    · have c90n : (ftWs j) ≤ k := ft_leN (by omega) (by omega) c90
                      have hkw : k = ftWs j := by omega
                      refine lv_iload hx hb dX11_readsWord_129 (lv_at hl 4 rfl) ?_
                      refine lv_if_eq (tgt := 138) hx hb dX11_readsWord_131 (by decide) (fun c131 => ?_) (fun c131 => ?_)
                      · have hn9 : ¬ ftWP tx sp (r - sp) j (ftWs j) := fun q => ftB_eq (by rw [← ex84_4]; exact c131) (ftWP_mono hks q)
                        refine lv_iload_n hx hb dX11_readsWord_138 rfl (lv_at hl 2 rfl) ?_
                        refine lv_istore_n (lv' := [(2, .int x55_2), (0, .ref m0), (1, .int (nI sp)), (3, .int (nI j)), (4, .int x84_4), (5, .int (nI k))]) hx hb dX11_readsWord_139 rfl hl (by decide) rfl (fun ls hl => ?_)
                        refine lv_iinc (v := nI (j + 1)) (lv' := [(3, .int (nI (j + 1))), (2, .int x55_2), (0, .ref m0), (1, .int (nI sp)), (4, .int x84_4), (5, .int (nI k))]) hx hb dX11_readsWord_140 hl (k := 3) rfl (ft_inc j) (by decide) rfl (fun ls hl => ?_)
                        refine lv_goto (tgt := 55) hx hb dX11_readsWord_143 (by decide) ?_
                        exact ih55 (j + 1) x55_2 (nI (j + 1))  (by omega) (by omega) (by first | (rw [ftWd_t hy9]; done) | (rw [ftWd_f hn9]; exact ex55_2)) (by first | rfl | assumption)  _ _ hP hD hS ls (lv_sub hl [2, 3, 1, 0] rfl)
                      · have hy9 : ftWP tx sp (r - sp) j (ftWs j) := by rw [← hkw]; exact ftB_ne (by rw [← ex84_4]; exact c131)
                        refine lv_iload_n hx hb dX11_readsWord_134 rfl (lv_at hl 3 rfl) ?_
                        refine lv_goto (tgt := 139) hx hb dX11_readsWord_135 (by decide) ?_
                        refine lv_istore_n (lv' := [(2, .int (nI j)), (0, .ref m0), (1, .int (nI sp)), (3, .int (nI j)), (4, .int x84_4), (5, .int (nI k))]) hx hb dX11_readsWord_139 rfl hl (by decide) rfl (fun ls hl => ?_)
                        refine lv_iinc (v := nI (j + 1)) (lv' := [(3, .int (nI (j + 1))), (2, .int (nI j)), (0, .ref m0), (1, .int (nI sp)), (4, .int x84_4), (5, .int (nI k))]) hx hb dX11_readsWord_140 hl (k := 3) rfl (ft_inc j) (by decide) rfl (fun ls hl => ?_)
                        refine lv_goto (tgt := 55) hx hb dX11_readsWord_143 (by decide) ?_
                        exact ih55 (j + 1) (nI j) (nI (j + 1))  (by omega) (by omega) (by first | (rw [ftWd_t hy9]; done) | (rw [ftWd_f hn9]; exact ex55_2)) (by first | rfl | assumption)  _ _ hP hD hS ls (lv_sub hl [2, 3, 1, 0] rfl)
                    · have c90n : k < (ftWs j) := ft_nleN (by omega) (by omega) c90
                      refine lv_iload hx hb dX11_readsWord_93 (lv_at hl 4 rfl) ?_
                      refine lv_if_eq (tgt := 129) hx hb dX11_readsWord_95 (by decide) (fun c95 => ?_) (fun c95 => ?_)
                      · have hn9 : ¬ ftWP tx sp (r - sp) j (ftWs j) := fun q => ftB_eq (by rw [← ex84_4]; exact c95) (ftWP_mono hks q)
                        refine lv_iload hx hb dX11_readsWord_129 (lv_at hl 4 rfl) ?_
                        refine lv_if_eq (tgt := 138) hx hb dX11_readsWord_131 (by decide) (fun c131 => ?_) (fun c131 => ?_)
                        · have hn9 : ¬ ftWP tx sp (r - sp) j (ftWs j) := fun q => ftB_eq (by rw [← ex84_4]; exact c131) (ftWP_mono hks q)
                          refine lv_iload_n hx hb dX11_readsWord_138 rfl (lv_at hl 2 rfl) ?_
                          refine lv_istore_n (lv' := [(2, .int x55_2), (0, .ref m0), (1, .int (nI sp)), (3, .int (nI j)), (4, .int x84_4), (5, .int (nI k))]) hx hb dX11_readsWord_139 rfl hl (by decide) rfl (fun ls hl => ?_)
                          refine lv_iinc (v := nI (j + 1)) (lv' := [(3, .int (nI (j + 1))), (2, .int x55_2), (0, .ref m0), (1, .int (nI sp)), (4, .int x84_4), (5, .int (nI k))]) hx hb dX11_readsWord_140 hl (k := 3) rfl (ft_inc j) (by decide) rfl (fun ls hl => ?_)
                          refine lv_goto (tgt := 55) hx hb dX11_readsWord_143 (by decide) ?_
                          exact ih55 (j + 1) x55_2 (nI (j + 1))  (by omega) (by omega) (by first | (rw [ftWd_t hy9]; done) | (rw [ftWd_f hn9]; exact ex55_2)) (by first | rfl | assumption)  _ _ hP hD hS ls (lv_sub hl [2, 3, 1, 0] rfl)
                        · exact absurd c95 c131
                      · have h9 : ftWP tx sp (r - sp) j k := ftB_ne (by rw [← ex84_4]; exact c95)
                        have hd9 := h9.1
                        refine lv_aload_n hx hb dX11_readsWord_98 rfl (lv_at hl 0 rfl) ?_
                        refine va_get (D := D) (ci := 11) (v := .ref p3) (C := RX11) (T := TX11) (N := 33) hx hb hts (by decide +kernel) hown hK hP 0 rfl rfl 3 (by decide) (hts (.fieldLink RX11 16 "FiberTraceModel" "text" "[I") (by decide +kernel)) (fun _ h9 => h9) rfl dX11_readsWord_99 ?_
                        refine lv_iload_n hx hb dX11_readsWord_102 rfl (lv_at hl 1 rfl) ?_
                        refine lv_iload hx hb dX11_readsWord_103 (lv_at hl 5 rfl) ?_
                        refine lv_iadd hx hb dX11_readsWord_105 ?_
                        refine ft_top (y := nI (sp + k)) (ft_addN sp k) ?_
                        refine va_iald hx hb hK hP 1 0 rfl rfl (vp_in_nI (by omega) (by omega)) dX11_readsWord_106 ?_
                        refine ft_top (y := tx (sp + k)) (ft_clampN (by omega)) ?_
                        refine lv_iload_n hx hb dX11_readsWord_107 rfl (lv_at hl 3 rfl) ?_
                        refine lv_iload hx hb dX11_readsWord_108 (lv_at hl 5 rfl) ?_
                        refine ft_csi (r := ftLt (nI (100 * j + k))) (va_runS (As := [.int (nI j), .int (nI k)]) (rest := [.int (tx (sp + k))]) ⟨hx, hb, hml, hown, hts⟩ (c_X11_letterOf l D cI cS j k (by omega) (by omega)) (va_cwS 2 hts gX11_readsWord_X11_letterOf rfl rfl rfl (by decide +kernel) ⟨Nat.le_of_ble_eq_true rfl, Nat.le_of_ble_eq_true rfl⟩) (ft_preRO hP hKK [] rfl) rfl rfl hl.1 rfl (lv_room (Nat.le_of_ble_eq_true rfl)) dX11_readsWord_110 ⟨Nat.le_of_ble_eq_true rfl, Nat.le_of_ble_eq_true rfl⟩) ?_
                        refine lv_icmp_ne (tgt := 120) hx hb dX11_readsWord_113 (by decide) (fun c113 => ?_) (fun c113 => ?_)
                        · have h7 : ftB (ftWP tx sp (r - sp) j (k + 1)) = 0 := ftB_f (fun q => c113 (q.2 k (by omega)))
                          refine lv_iconst (v := 0) hx hb dX11_readsWord_120 (by decide) ?_
                          refine lv_istore (lv' := [(4, .int 0), (0, .ref m0), (1, .int (nI sp)), (2, .int x55_2), (3, .int (nI j)), (5, .int (nI k))]) hx hb dX11_readsWord_121 hl (by decide) rfl (fun ls hl => ?_)
                          refine lv_iinc (v := nI (k + 1)) (lv' := [(5, .int (nI (k + 1))), (4, .int 0), (0, .ref m0), (1, .int (nI sp)), (2, .int x55_2), (3, .int (nI j))]) hx hb dX11_readsWord_123 hl (k := 5) rfl (ft_inc k) (by decide) rfl (fun ls hl => ?_)
                          refine lv_goto (tgt := 84) hx hb dX11_readsWord_126 (by decide) ?_
                          exact ih84 (k + 1) 0 (nI (k + 1))  (by omega) (by omega) (by exact h7.symm) (by first | rfl | assumption)  _ _ hP hD hS ls (lv_sub hl [2, 3, 4, 5, 1, 0] rfl)
                        · have h7 : ftB (ftWP tx sp (r - sp) j (k + 1)) = 1 := ftB_t (ftWP_s h9 c113)
                          refine lv_iconst (v := 1) hx hb dX11_readsWord_116 (by decide) ?_
                          refine lv_goto (tgt := 121) hx hb dX11_readsWord_117 (by decide) ?_
                          refine lv_istore (lv' := [(4, .int 1), (0, .ref m0), (1, .int (nI sp)), (2, .int x55_2), (3, .int (nI j)), (5, .int (nI k))]) hx hb dX11_readsWord_121 hl (by decide) rfl (fun ls hl => ?_)
                          refine lv_iinc (v := nI (k + 1)) (lv' := [(5, .int (nI (k + 1))), (4, .int 1), (0, .ref m0), (1, .int (nI sp)), (2, .int x55_2), (3, .int (nI j))]) hx hb dX11_readsWord_123 hl (k := 5) rfl (ft_inc k) (by decide) rfl (fun ls hl => ?_)
                          refine lv_goto (tgt := 84) hx hb dX11_readsWord_126 (by decide) ?_
                          exact ih84 (k + 1) 1 (nI (k + 1))  (by omega) (by omega) (by exact h7.symm) (by first | rfl | assumption)  _ _ hP hD hS ls (lv_sub hl [2, 3, 4, 5, 1, 0] rfl)
                exact lp84 _ 0 0 0  (Nat.lt_succ_self _) (by omega) (by first | exact (ftB_t ⟨c71n, fun t ht => absurd ht (Nat.not_lt_zero t)⟩).symm | exact (ftB_f (fun q => c71n q.1)).symm) (by rfl) _ _ hP hD hS ls (lv_sub hl [2, 3, 4, 5, 1, 0] rfl)
              · have c71n : (r - sp) = (ftWs j) := ft_eqN (by omega) (by omega) c71
                refine lv_iconst (v := 1) hx hb dX11_readsWord_74 (by decide) ?_
                refine lv_goto (tgt := 79) hx hb dX11_readsWord_75 (by decide) ?_
                refine lv_istore (lv' := [(4, .int 1), (0, .ref m0), (1, .int (nI sp)), (2, .int x55_2), (3, .int (nI j))]) hx hb dX11_readsWord_79 hl (by decide) rfl (fun ls hl => ?_)
                refine lv_iconst (v := 0) hx hb dX11_readsWord_81 (by decide) ?_
                refine lv_istore (lv' := [(5, .int 0), (4, .int 1), (0, .ref m0), (1, .int (nI sp)), (2, .int x55_2), (3, .int (nI j))]) hx hb dX11_readsWord_82 hl (by decide) rfl (fun ls hl => ?_)
                have lp84 : ∀ (n84 : Nat) (k : Nat) (x84_4 : Int32) (x84_5 : Int32), ftWs j - k < n84 → (k ≤ ftWs j) → x84_4 = ftB (ftWP tx sp (r - sp) j k) → x84_5 = nI k → ∀ (H : Heap) (locs : List Loc), va_P D vwCl [(m0, .inr (11, [.ref p0, .ref p1, .int i2, .ref p3, .int (nI tn), .ref p5, .int (nI r), .int i7, .int i8, .int i9, .ref p10, .int i11, .ref p12, .ref p13, .ref p14, .int i15, .ref p16, .ref p17, .int i18, .ref p19, .ref p20, .ref p21, .ref p22, .int i23, .int i24, .ref p25, .ref p26, .ref p27, .ref p28, .ref p29, .ref p30, .ref p31, .ref p32])), (p3, .inl (cI, 120, .inl tx))] H → va_D A [(m0, .inr (11, [.ref p0, .ref p1, .int i2, .ref p3, .int (nI tn), .ref p5, .int (nI r), .int i7, .int i8, .int i9, .ref p10, .int i11, .ref p12, .ref p13, .ref p14, .int i15, .ref p16, .ref p17, .int i18, .ref p19, .ref p20, .ref p21, .ref p22, .int i23, .int i24, .ref p25, .ref p26, .ref p27, .ref p28, .ref p29, .ref p30, .ref p31, .ref p32])), (p3, .inl (cI, 120, .inl tx))] → va_S A s.heap H locs → ∀ ls : Array Slot, lv_has ls 6 [(0, .ref m0), (1, .int (nI sp)), (2, .int x55_2), (3, .int (nI j)), (4, .int x84_4), (5, .int x84_5)] → W p l e (headSpec wsX11_readsWord { frames := 1, cells := 0, slots := 0, locals := 25 }).room s m ([.ref m0] : List Value).toArray below meth c H locs 0 0 (MQ below (ftQi D (ftWd tx sp (ftRun tx tn sp) 6) [(m0, .inr (11, [.ref p0, .ref p1, .int i2, .ref p3, .int (nI tn), .ref p5, .int (nI sp), .int i7, .int i8, .int i9, .ref p10, .int i11, .ref p12, .ref p13, .ref p14, .int i15, .ref p16, .ref p17, .int i18, .ref p19, .ref p20, .ref p21, .ref p22, .int i23, .int i24, .ref p25, .ref p26, .ref p27, .ref p28, .ref p29, .ref p30, .ref p31, .ref p32])), (p3, .inl (cI, 120, .inl tx))] [(m0, .inr (11, [.ref p0, .ref p1, .int i2, .ref p3, .int (nI tn), .ref p5, .int (nI (sp + ftRun tx tn sp)), .int i7, .int i8, .int i9, .ref p10, .int i11, .ref p12, .ref p13, .ref p14, .int i15, .ref p16, .ref p17, .int i18, .ref p19, .ref p20, .ref p21, .ref p22, .int i23, .int i24, .ref p25, .ref p26, .ref p27, .ref p28, .ref p29, .ref p30, .ref p31, .ref p32])), (p3, .inl (cI, 120, .inl tx))] s.heap.size) ([.ref m0] : List Value).toArray s 0 0 A) (F0 m 84 ls []) := by
                  intro n84
                  induction n84 with
                  | zero =>
                    intro k x84_4 x84_5  hm84
                    exact absurd hm84 (Nat.not_lt_zero _)
                  | succ n84 ih84 =>
                    intro k x84_4 x84_5  hm84 hks ex84_4 ex84_5  H locs hP hD hS ls hl
                    subst ex84_5
                    refine lv_iload hx hb dX11_readsWord_84 (lv_at hl 5 rfl) ?_
                    refine lv_iload_n hx hb dX11_readsWord_86 rfl (lv_at hl 3 rfl) ?_
                    refine ft_csi (r := nI (ftWs j)) (va_runS (As := [.int (nI j)]) (rest := [.int (nI k)]) ⟨hx, hb, hml, hown, hts⟩ (c_X11_wordSize l D cI cS j (by omega)) (va_cwS 1 hts gX11_readsWord_X11_wordSize rfl rfl rfl (by decide +kernel) ⟨Nat.le_of_ble_eq_true rfl, Nat.le_of_ble_eq_true rfl⟩) (ft_preRO hP hKK [] rfl) rfl rfl hl.1 rfl (lv_room (Nat.le_of_ble_eq_true rfl)) dX11_readsWord_87 ⟨Nat.le_of_ble_eq_true rfl, Nat.le_of_ble_eq_true rfl⟩) ?_
                    refine lv_icmp_ge (tgt := 129) hx hb dX11_readsWord_90 (by decide) (fun c90 => ?_) (fun c90 => ?_)
                    · have c90n : (ftWs j) ≤ k := ft_leN (by omega) (by omega) c90
                      have hkw : k = ftWs j := by omega
                      refine lv_iload hx hb dX11_readsWord_129 (lv_at hl 4 rfl) ?_
                      refine lv_if_eq (tgt := 138) hx hb dX11_readsWord_131 (by decide) (fun c131 => ?_) (fun c131 => ?_)
                      · have hn9 : ¬ ftWP tx sp (r - sp) j (ftWs j) := fun q => ftB_eq (by rw [← ex84_4]; exact c131) (ftWP_mono hks q)
                        refine lv_iload_n hx hb dX11_readsWord_138 rfl (lv_at hl 2 rfl) ?_
                        refine lv_istore_n (lv' := [(2, .int x55_2), (0, .ref m0), (1, .int (nI sp)), (3, .int (nI j)), (4, .int x84_4), (5, .int (nI k))]) hx hb dX11_readsWord_139 rfl hl (by decide) rfl (fun ls hl => ?_)
                        refine lv_iinc (v := nI (j + 1)) (lv' := [(3, .int (nI (j + 1))), (2, .int x55_2), (0, .ref m0), (1, .int (nI sp)), (4, .int x84_4), (5, .int (nI k))]) hx hb dX11_readsWord_140 hl (k := 3) rfl (ft_inc j) (by decide) rfl (fun ls hl => ?_)
                        refine lv_goto (tgt := 55) hx hb dX11_readsWord_143 (by decide) ?_
                        exact ih55 (j + 1) x55_2 (nI (j + 1))  (by omega) (by omega) (by first | (rw [ftWd_t hy9]; done) | (rw [ftWd_f hn9]; exact ex55_2)) (by first | rfl | assumption)  _ _ hP hD hS ls (lv_sub hl [2, 3, 1, 0] rfl)
                      · have hy9 : ftWP tx sp (r - sp) j (ftWs j) := by rw [← hkw]; exact ftB_ne (by rw [← ex84_4]; exact c131)
                        refine lv_iload_n hx hb dX11_readsWord_134 rfl (lv_at hl 3 rfl) ?_
                        refine lv_goto (tgt := 139) hx hb dX11_readsWord_135 (by decide) ?_
                        refine lv_istore_n (lv' := [(2, .int (nI j)), (0, .ref m0), (1, .int (nI sp)), (3, .int (nI j)), (4, .int x84_4), (5, .int (nI k))]) hx hb dX11_readsWord_139 rfl hl (by decide) rfl (fun ls hl => ?_)
                        refine lv_iinc (v := nI (j + 1)) (lv' := [(3, .int (nI (j + 1))), (2, .int (nI j)), (0, .ref m0), (1, .int (nI sp)), (4, .int x84_4), (5, .int (nI k))]) hx hb dX11_readsWord_140 hl (k := 3) rfl (ft_inc j) (by decide) rfl (fun ls hl => ?_)
                        refine lv_goto (tgt := 55) hx hb dX11_readsWord_143 (by decide) ?_
                        exact ih55 (j + 1) (nI j) (nI (j + 1))  (by omega) (by omega) (by first | (rw [ftWd_t hy9]; done) | (rw [ftWd_f hn9]; exact ex55_2)) (by first | rfl | assumption)  _ _ hP hD hS ls (lv_sub hl [2, 3, 1, 0] rfl)
                    · have c90n : k < (ftWs j) := ft_nleN (by omega) (by omega) c90
                      refine lv_iload hx hb dX11_readsWord_93 (lv_at hl 4 rfl) ?_
                      refine lv_if_eq (tgt := 129) hx hb dX11_readsWord_95 (by decide) (fun c95 => ?_) (fun c95 => ?_)
                      · have hn9 : ¬ ftWP tx sp (r - sp) j (ftWs j) := fun q => ftB_eq (by rw [← ex84_4]; exact c95) (ftWP_mono hks q)
                        refine lv_iload hx hb dX11_readsWord_129 (lv_at hl 4 rfl) ?_
                        refine lv_if_eq (tgt := 138) hx hb dX11_readsWord_131 (by decide) (fun c131 => ?_) (fun c131 => ?_)
                        · have hn9 : ¬ ftWP tx sp (r - sp) j (ftWs j) := fun q => ftB_eq (by rw [← ex84_4]; exact c131) (ftWP_mono hks q)
                          refine lv_iload_n hx hb dX11_readsWord_138 rfl (lv_at hl 2 rfl) ?_
                          refine lv_istore_n (lv' := [(2, .int x55_2), (0, .ref m0), (1, .int (nI sp)), (3, .int (nI j)), (4, .int x84_4), (5, .int (nI k))]) hx hb dX11_readsWord_139 rfl hl (by decide) rfl (fun ls hl => ?_)
                          refine lv_iinc (v := nI (j + 1)) (lv' := [(3, .int (nI (j + 1))), (2, .int x55_2), (0, .ref m0), (1, .int (nI sp)), (4, .int x84_4), (5, .int (nI k))]) hx hb dX11_readsWord_140 hl (k := 3) rfl (ft_inc j) (by decide) rfl (fun ls hl => ?_)
                          refine lv_goto (tgt := 55) hx hb dX11_readsWord_143 (by decide) ?_
                          exact ih55 (j + 1) x55_2 (nI (j + 1))  (by omega) (by omega) (by first | (rw [ftWd_t hy9]; done) | (rw [ftWd_f hn9]; exact ex55_2)) (by first | rfl | assumption)  _ _ hP hD hS ls (lv_sub hl [2, 3, 1, 0] rfl)
                        · exact absurd c95 c131
                      · have h9 : ftWP tx sp (r - sp) j k := ftB_ne (by rw [← ex84_4]; exact c95)
                        have hd9 := h9.1
                        refine lv_aload_n hx hb dX11_readsWord_98 rfl (lv_at hl 0 rfl) ?_
                        refine va_get (D := D) (ci := 11) (v := .ref p3) (C := RX11) (T := TX11) (N := 33) hx hb hts (by decide +kernel) hown hK hP 0 rfl rfl 3 (by decide) (hts (.fieldLink RX11 16 "FiberTraceModel" "text" "[I") (by decide +kernel)) (fun _ h9 => h9) rfl dX11_readsWord_99 ?_
                        refine lv_iload_n hx hb dX11_readsWord_102 rfl (lv_at hl 1 rfl) ?_
                        refine lv_iload hx hb dX11_readsWord_103 (lv_at hl 5 rfl) ?_
                        refine lv_iadd hx hb dX11_readsWord_105 ?_
                        refine ft_top (y := nI (sp + k)) (ft_addN sp k) ?_
                        refine va_iald hx hb hK hP 1 0 rfl rfl (vp_in_nI (by omega) (by omega)) dX11_readsWord_106 ?_
                        refine ft_top (y := tx (sp + k)) (ft_clampN (by omega)) ?_
                        refine lv_iload_n hx hb dX11_readsWord_107 rfl (lv_at hl 3 rfl) ?_
                        refine lv_iload hx hb dX11_readsWord_108 (lv_at hl 5 rfl) ?_
                        refine ft_csi (r := ftLt (nI (100 * j + k))) (va_runS (As := [.int (nI j), .int (nI k)]) (rest := [.int (tx (sp + k))]) ⟨hx, hb, hml, hown, hts⟩ (c_X11_letterOf l D cI cS j k (by omega) (by omega)) (va_cwS 2 hts gX11_readsWord_X11_letterOf rfl rfl rfl (by decide +kernel) ⟨Nat.le_of_ble_eq_true rfl, Nat.le_of_ble_eq_true rfl⟩) (ft_preRO hP hKK [] rfl) rfl rfl hl.1 rfl (lv_room (Nat.le_of_ble_eq_true rfl)) dX11_readsWord_110 ⟨Nat.le_of_ble_eq_true rfl, Nat.le_of_ble_eq_true rfl⟩) ?_
                        refine lv_icmp_ne (tgt := 120) hx hb dX11_readsWord_113 (by decide) (fun c113 => ?_) (fun c113 => ?_)
                        · have h7 : ftB (ftWP tx sp (r - sp) j (k + 1)) = 0 := ftB_f (fun q => c113 (q.2 k (by omega)))
                          refine lv_iconst (v := 0) hx hb dX11_readsWord_120 (by decide) ?_
                          refine lv_istore (lv' := [(4, .int 0), (0, .ref m0), (1, .int (nI sp)), (2, .int x55_2), (3, .int (nI j)), (5, .int (nI k))]) hx hb dX11_readsWord_121 hl (by decide) rfl (fun ls hl => ?_)
                          refine lv_iinc (v := nI (k + 1)) (lv' := [(5, .int (nI (k + 1))), (4, .int 0), (0, .ref m0), (1, .int (nI sp)), (2, .int x55_2), (3, .int (nI j))]) hx hb dX11_readsWord_123 hl (k := 5) rfl (ft_inc k) (by decide) rfl (fun ls hl => ?_)
                          refine lv_goto (tgt := 84) hx hb dX11_readsWord_126 (by decide) ?_
                          exact ih84 (k + 1) 0 (nI (k + 1))  (by omega) (by omega) (by exact h7.symm) (by first | rfl | assumption)  _ _ hP hD hS ls (lv_sub hl [2, 3, 4, 5, 1, 0] rfl)
                        · have h7 : ftB (ftWP tx sp (r - sp) j (k + 1)) = 1 := ftB_t (ftWP_s h9 c113)
                          refine lv_iconst (v := 1) hx hb dX11_readsWord_116 (by decide) ?_
                          refine lv_goto (tgt := 121) hx hb dX11_readsWord_117 (by decide) ?_
                          refine lv_istore (lv' := [(4, .int 1), (0, .ref m0), (1, .int (nI sp)), (2, .int x55_2), (3, .int (nI j)), (5, .int (nI k))]) hx hb dX11_readsWord_121 hl (by decide) rfl (fun ls hl => ?_)
                          refine lv_iinc (v := nI (k + 1)) (lv' := [(5, .int (nI (k + 1))), (4, .int 1), (0, .ref m0), (1, .int (nI sp)), (2, .int x55_2), (3, .int (nI j))]) hx hb dX11_readsWord_123 hl (k := 5) rfl (ft_inc k) (by decide) rfl (fun ls hl => ?_)
                          refine lv_goto (tgt := 84) hx hb dX11_readsWord_126 (by decide) ?_
                          exact ih84 (k + 1) 1 (nI (k + 1))  (by omega) (by omega) (by exact h7.symm) (by first | rfl | assumption)  _ _ hP hD hS ls (lv_sub hl [2, 3, 4, 5, 1, 0] rfl)
                exact lp84 _ 0 1 0  (Nat.lt_succ_self _) (by omega) (by first | exact (ftB_t ⟨c71n, fun t ht => absurd ht (Nat.not_lt_zero t)⟩).symm | exact (ftB_f (fun q => c71n q.1)).symm) (by rfl) _ _ hP hD hS ls (lv_sub hl [2, 3, 4, 5, 1, 0] rfl)
        exact lp55 _ 0 (-1) 0  (Nat.lt_succ_self _) (by omega) (by rfl) (by rfl) _ _ hP hD hS ls (lv_sub hl [2, 3, 1, 0] rfl)
      · have c13n : r < tn := ft_nleN (by omega) (by omega) c13
        refine lv_aload_n hx hb dX11_readsWord_16 rfl (lv_at hl 0 rfl) ?_
        refine va_get (D := D) (ci := 11) (v := .ref p3) (C := RX11) (T := TX11) (N := 33) hx hb hts (by decide +kernel) hown hK hP 0 rfl rfl 3 (by decide) (hts (.fieldLink RX11 16 "FiberTraceModel" "text" "[I") (by decide +kernel)) (fun _ h9 => h9) rfl dX11_readsWord_17 ?_
        refine lv_aload_n hx hb dX11_readsWord_20 rfl (lv_at hl 0 rfl) ?_
        refine va_get (D := D) (ci := 11) (v := .int (nI r)) (C := RX11) (T := TX11) (N := 33) hx hb hts (by decide +kernel) hown hK hP 0 rfl rfl 6 (by decide) (hts (.fieldLink RX11 100 "FiberTraceModel" "spot" "I") (by decide +kernel)) (fun _ h9 => h9) rfl dX11_readsWord_21 ?_
        refine va_iald hx hb hK hP 1 0 rfl rfl (vp_in_nI (by omega) (by omega)) dX11_readsWord_24 ?_
        refine ft_top (y := tx r) (ft_clampN (by omega)) ?_
        refine lv_i2l (v := (tx r).toInt64) hx hb dX11_readsWord_25 rfl ?_
        refine lv_ldc2 (v := 97) hx hb hown (hts (.constantLong RX11 103 97) (by decide +kernel)) dX11_readsWord_26 ?_
        refine lv_ldc2 (v := 122) hx hb hown (hts (.constantLong RX11 105 122) (by decide +kernel)) dX11_readsWord_29 ?_
        refine ft_csi (r := ftB (97 ≤ ((tx r).toInt64) ∧ ((tx r).toInt64) ≤ 122)) (va_runS (As := [.long ((tx r).toInt64), .long 97, .long 122]) (rest := []) ⟨hx, hb, hml, hown, hts⟩ (c_X11_in l D cI cS ((tx r).toInt64) 97 122) (va_cwS 3 hts gX11_readsWord_X11_in rfl rfl rfl (by decide +kernel) ⟨Nat.le_of_ble_eq_true rfl, Nat.le_of_ble_eq_true rfl⟩) (ft_preRO hP hKK [] rfl) rfl rfl hl.1 rfl (lv_room (Nat.le_of_ble_eq_true rfl)) dX11_readsWord_32 ⟨Nat.le_of_ble_eq_true rfl, Nat.le_of_ble_eq_true rfl⟩) ?_
        refine ft_top (y := ftB (97 ≤ (tx r) ∧ (tx r) ≤ 122)) (ft_in64 (by decide) (by decide)) ?_
        refine lv_if_eq (tgt := 51) hx hb dX11_readsWord_35 (by decide) (fun c35 => ?_) (fun c35 => ?_)
        · replace c35 := ftB_eq c35
          have hrun : ftRun tx tn sp = r - sp := ftIni_of (by omega) hall (fun _ q => c35 (by have q2 := q.2; rw [show sp + (r - sp) = r by omega] at q2; exact q2))
          refine lv_iconst (v := (-1)) hx hb dX11_readsWord_51 (by decide) ?_
          refine lv_istore_n (lv' := [(2, .int (-1)), (0, .ref m0), (1, .int (nI sp))]) hx hb dX11_readsWord_52 rfl hl (by decide) rfl (fun ls hl => ?_)
          refine lv_iconst (v := 0) hx hb dX11_readsWord_53 (by decide) ?_
          refine lv_istore_n (lv' := [(3, .int 0), (2, .int (-1)), (0, .ref m0), (1, .int (nI sp))]) hx hb dX11_readsWord_54 rfl hl (by decide) rfl (fun ls hl => ?_)
          have lp55 : ∀ (n55 : Nat) (j : Nat) (x55_2 : Int32) (x55_3 : Int32), 6 - j < n55 → (j ≤ 6) → x55_2 = ftWd tx sp (r - sp) j → x55_3 = nI j → ∀ (H : Heap) (locs : List Loc), va_P D vwCl [(m0, .inr (11, [.ref p0, .ref p1, .int i2, .ref p3, .int (nI tn), .ref p5, .int (nI r), .int i7, .int i8, .int i9, .ref p10, .int i11, .ref p12, .ref p13, .ref p14, .int i15, .ref p16, .ref p17, .int i18, .ref p19, .ref p20, .ref p21, .ref p22, .int i23, .int i24, .ref p25, .ref p26, .ref p27, .ref p28, .ref p29, .ref p30, .ref p31, .ref p32])), (p3, .inl (cI, 120, .inl tx))] H → va_D A [(m0, .inr (11, [.ref p0, .ref p1, .int i2, .ref p3, .int (nI tn), .ref p5, .int (nI r), .int i7, .int i8, .int i9, .ref p10, .int i11, .ref p12, .ref p13, .ref p14, .int i15, .ref p16, .ref p17, .int i18, .ref p19, .ref p20, .ref p21, .ref p22, .int i23, .int i24, .ref p25, .ref p26, .ref p27, .ref p28, .ref p29, .ref p30, .ref p31, .ref p32])), (p3, .inl (cI, 120, .inl tx))] → va_S A s.heap H locs → ∀ ls : Array Slot, lv_has ls 6 [(0, .ref m0), (1, .int (nI sp)), (2, .int x55_2), (3, .int x55_3)] → W p l e (headSpec wsX11_readsWord { frames := 1, cells := 0, slots := 0, locals := 25 }).room s m ([.ref m0] : List Value).toArray below meth c H locs 0 0 (MQ below (ftQi D (ftWd tx sp (ftRun tx tn sp) 6) [(m0, .inr (11, [.ref p0, .ref p1, .int i2, .ref p3, .int (nI tn), .ref p5, .int (nI sp), .int i7, .int i8, .int i9, .ref p10, .int i11, .ref p12, .ref p13, .ref p14, .int i15, .ref p16, .ref p17, .int i18, .ref p19, .ref p20, .ref p21, .ref p22, .int i23, .int i24, .ref p25, .ref p26, .ref p27, .ref p28, .ref p29, .ref p30, .ref p31, .ref p32])), (p3, .inl (cI, 120, .inl tx))] [(m0, .inr (11, [.ref p0, .ref p1, .int i2, .ref p3, .int (nI tn), .ref p5, .int (nI (sp + ftRun tx tn sp)), .int i7, .int i8, .int i9, .ref p10, .int i11, .ref p12, .ref p13, .ref p14, .int i15, .ref p16, .ref p17, .int i18, .ref p19, .ref p20, .ref p21, .ref p22, .int i23, .int i24, .ref p25, .ref p26, .ref p27, .ref p28, .ref p29, .ref p30, .ref p31, .ref p32])), (p3, .inl (cI, 120, .inl tx))] s.heap.size) ([.ref m0] : List Value).toArray s 0 0 A) (F0 m 55 ls []) := by
            intro n55
            induction n55 with
            | zero =>
              intro j x55_2 x55_3  hm55
              exact absurd hm55 (Nat.not_lt_zero _)
            | succ n55 ih55 =>
              intro j x55_2 x55_3  hm55 hj6 ex55_2 ex55_3  H locs hP hD hS ls hl
              subst ex55_3
              refine lv_iload_n hx hb dX11_readsWord_55 rfl (lv_at hl 3 rfl) ?_
              refine lv_bipush (v := 6) hx hb dX11_readsWord_56 (by decide) ?_
              refine lv_icmp_ge (tgt := 146) hx hb dX11_readsWord_58 (by decide) (fun c58 => ?_) (fun c58 => ?_)
              · have c58n : 6 ≤ j := ft_leN (by omega) (by omega) c58
                refine lv_iload_n hx hb dX11_readsWord_146 rfl (lv_at hl 2 rfl) ?_
                have hw9 : ([(m0, .inr (11, [.ref p0, .ref p1, .int i2, .ref p3, .int (nI tn), .ref p5, .int (nI r), .int i7, .int i8, .int i9, .ref p10, .int i11, .ref p12, .ref p13, .ref p14, .int i15, .ref p16, .ref p17, .int i18, .ref p19, .ref p20, .ref p21, .ref p22, .int i23, .int i24, .ref p25, .ref p26, .ref p27, .ref p28, .ref p29, .ref p30, .ref p31, .ref p32])), (p3, .inl (cI, 120, .inl tx))] : va_W) = [(m0, .inr (11, [.ref p0, .ref p1, .int i2, .ref p3, .int (nI tn), .ref p5, .int (nI (sp + ftRun tx tn sp)), .int i7, .int i8, .int i9, .ref p10, .int i11, .ref p12, .ref p13, .ref p14, .int i15, .ref p16, .ref p17, .int i18, .ref p19, .ref p20, .ref p21, .ref p22, .int i23, .int i24, .ref p25, .ref p26, .ref p27, .ref p28, .ref p29, .ref p30, .ref p31, .ref p32])), (p3, .inl (cI, 120, .inl tx))] := by rw [hrun, show sp + (r - sp) = r by omega]
                rw [hw9] at hP hD
                exact W.iret (v := x55_2) hx hb hr (fun t ht hW => ⟨⟨x55_2, (), rfl, (by show (x55_2 : Int32) = ftWd tx sp (ftRun tx tn sp) 6; (obtain rfl : j = 6 := by omega); rw [hrun]; exact ex55_2), by rw [ht]; exact hP, by rw [hAe]; exact hD⟩, by rw [hAe]; exact hS.F ht⟩) hS.2.2 dX11_readsWord_147
              · have c58n : j < 6 := ft_nleN (by omega) (by omega) c58
                have hw11 := ftWs_le j
                refine lv_aload_n hx hb dX11_readsWord_61 rfl (lv_at hl 0 rfl) ?_
                refine va_get (D := D) (ci := 11) (v := .int (nI r)) (C := RX11) (T := TX11) (N := 33) hx hb hts (by decide +kernel) hown hK hP 0 rfl rfl 6 (by decide) (hts (.fieldLink RX11 100 "FiberTraceModel" "spot" "I") (by decide +kernel)) (fun _ h9 => h9) rfl dX11_readsWord_62 ?_
                refine lv_iload_n hx hb dX11_readsWord_65 rfl (lv_at hl 1 rfl) ?_
                refine lv_isub hx hb dX11_readsWord_66 ?_
                refine ft_top (y := nI (r - sp)) (ft_subN (a := r) (b := sp) (by omega)) ?_
                refine lv_iload_n hx hb dX11_readsWord_67 rfl (lv_at hl 3 rfl) ?_
                refine ft_csi (r := nI (ftWs j)) (va_runS (As := [.int (nI j)]) (rest := [.int (nI (r - sp))]) ⟨hx, hb, hml, hown, hts⟩ (c_X11_wordSize l D cI cS j (by omega)) (va_cwS 1 hts gX11_readsWord_X11_wordSize rfl rfl rfl (by decide +kernel) ⟨Nat.le_of_ble_eq_true rfl, Nat.le_of_ble_eq_true rfl⟩) (ft_preRO hP hKK [] rfl) rfl rfl hl.1 rfl (lv_room (Nat.le_of_ble_eq_true rfl)) dX11_readsWord_68 ⟨Nat.le_of_ble_eq_true rfl, Nat.le_of_ble_eq_true rfl⟩) ?_
                refine lv_icmp_ne (tgt := 78) hx hb dX11_readsWord_71 (by decide) (fun c71 => ?_) (fun c71 => ?_)
                · have c71n : (r - sp) ≠ (ftWs j) := ft_neN (by omega) (by omega) c71
                  refine lv_iconst (v := 0) hx hb dX11_readsWord_78 (by decide) ?_
                  refine lv_istore (lv' := [(4, .int 0), (0, .ref m0), (1, .int (nI sp)), (2, .int x55_2), (3, .int (nI j))]) hx hb dX11_readsWord_79 hl (by decide) rfl (fun ls hl => ?_)
                  refine lv_iconst (v := 0) hx hb dX11_readsWord_81 (by decide) ?_
                  refine lv_istore (lv' := [(5, .int 0), (4, .int 0), (0, .ref m0), (1, .int (nI sp)), (2, .int x55_2), (3, .int (nI j))]) hx hb dX11_readsWord_82 hl (by decide) rfl (fun ls hl => ?_)
                  have lp84 : ∀ (n84 : Nat) (k : Nat) (x84_4 : Int32) (x84_5 : Int32), ftWs j - k < n84 → (k ≤ ftWs j) → x84_4 = ftB (ftWP tx sp (r - sp) j k) → x84_5 = nI k → ∀ (H : Heap) (locs : List Loc), va_P D vwCl [(m0, .inr (11, [.ref p0, .ref p1, .int i2, .ref p3, .int (nI tn), .ref p5, .int (nI r), .int i7, .int i8, .int i9, .ref p10, .int i11, .ref p12, .ref p13, .ref p14, .int i15, .ref p16, .ref p17, .int i18, .ref p19, .ref p20, .ref p21, .ref p22, .int i23, .int i24, .ref p25, .ref p26, .ref p27, .ref p28, .ref p29, .ref p30, .ref p31, .ref p32])), (p3, .inl (cI, 120, .inl tx))] H → va_D A [(m0, .inr (11, [.ref p0, .ref p1, .int i2, .ref p3, .int (nI tn), .ref p5, .int (nI r), .int i7, .int i8, .int i9, .ref p10, .int i11, .ref p12, .ref p13, .ref p14, .int i15, .ref p16, .ref p17, .int i18, .ref p19, .ref p20, .ref p21, .ref p22, .int i23, .int i24, .ref p25, .ref p26, .ref p27, .ref p28, .ref p29, .ref p30, .ref p31, .ref p32])), (p3, .inl (cI, 120, .inl tx))] → va_S A s.heap H locs → ∀ ls : Array Slot, lv_has ls 6 [(0, .ref m0), (1, .int (nI sp)), (2, .int x55_2), (3, .int (nI j)), (4, .int x84_4), (5, .int x84_5)] → W p l e (headSpec wsX11_readsWord { frames := 1, cells := 0, slots := 0, locals := 25 }).room s m ([.ref m0] : List Value).toArray below meth c H locs 0 0 (MQ below (ftQi D (ftWd tx sp (ftRun tx tn sp) 6) [(m0, .inr (11, [.ref p0, .ref p1, .int i2, .ref p3, .int (nI tn), .ref p5, .int (nI sp), .int i7, .int i8, .int i9, .ref p10, .int i11, .ref p12, .ref p13, .ref p14, .int i15, .ref p16, .ref p17, .int i18, .ref p19, .ref p20, .ref p21, .ref p22, .int i23, .int i24, .ref p25, .ref p26, .ref p27, .ref p28, .ref p29, .ref p30, .ref p31, .ref p32])), (p3, .inl (cI, 120, .inl tx))] [(m0, .inr (11, [.ref p0, .ref p1, .int i2, .ref p3, .int (nI tn), .ref p5, .int (nI (sp + ftRun tx tn sp)), .int i7, .int i8, .int i9, .ref p10, .int i11, .ref p12, .ref p13, .ref p14, .int i15, .ref p16, .ref p17, .int i18, .ref p19, .ref p20, .ref p21, .ref p22, .int i23, .int i24, .ref p25, .ref p26, .ref p27, .ref p28, .ref p29, .ref p30, .ref p31, .ref p32])), (p3, .inl (cI, 120, .inl tx))] s.heap.size) ([.ref m0] : List Value).toArray s 0 0 A) (F0 m 84 ls []) := by
                    intro n84
                    induction n84 with
                    | zero =>
                      intro k x84_4 x84_5  hm84
                      exact absurd hm84 (Nat.not_lt_zero _)
                    | succ n84 ih84 =>
                      intro k x84_4 x84_5  hm84 hks ex84_4 ex84_5  H locs hP hD hS ls hl
                      subst ex84_5
                      refine lv_iload hx hb dX11_readsWord_84 (lv_at hl 5 rfl) ?_
                      refine lv_iload_n hx hb dX11_readsWord_86 rfl (lv_at hl 3 rfl) ?_
                      refine ft_csi (r := nI (ftWs j)) (va_runS (As := [.int (nI j)]) (rest := [.int (nI k)]) ⟨hx, hb, hml, hown, hts⟩ (c_X11_wordSize l D cI cS j (by omega)) (va_cwS 1 hts gX11_readsWord_X11_wordSize rfl rfl rfl (by decide +kernel) ⟨Nat.le_of_ble_eq_true rfl, Nat.le_of_ble_eq_true rfl⟩) (ft_preRO hP hKK [] rfl) rfl rfl hl.1 rfl (lv_room (Nat.le_of_ble_eq_true rfl)) dX11_readsWord_87 ⟨Nat.le_of_ble_eq_true rfl, Nat.le_of_ble_eq_true rfl⟩) ?_
                      refine lv_icmp_ge (tgt := 129) hx hb dX11_readsWord_90 (by decide) (fun c90 => ?_) (fun c90 => ?_)
                      · have c90n : (ftWs j) ≤ k := ft_leN (by omega) (by omega) c90
                        have hkw : k = ftWs j := by omega
                        refine lv_iload hx hb dX11_readsWord_129 (lv_at hl 4 rfl) ?_
                        refine lv_if_eq (tgt := 138) hx hb dX11_readsWord_131 (by decide) (fun c131 => ?_) (fun c131 => ?_)
                        · have hn9 : ¬ ftWP tx sp (r - sp) j (ftWs j) := fun q => ftB_eq (by rw [← ex84_4]; exact c131) (ftWP_mono hks q)
                          refine lv_iload_n hx hb dX11_readsWord_138 rfl (lv_at hl 2 rfl) ?_
                          refine lv_istore_n (lv' := [(2, .int x55_2), (0, .ref m0), (1, .int (nI sp)), (3, .int (nI j)), (4, .int x84_4), (5, .int (nI k))]) hx hb dX11_readsWord_139 rfl hl (by decide) rfl (fun ls hl => ?_)
                          refine lv_iinc (v := nI (j + 1)) (lv' := [(3, .int (nI (j + 1))), (2, .int x55_2), (0, .ref m0), (1, .int (nI sp)), (4, .int x84_4), (5, .int (nI k))]) hx hb dX11_readsWord_140 hl (k := 3) rfl (ft_inc j) (by decide) rfl (fun ls hl => ?_)
                          refine lv_goto (tgt := 55) hx hb dX11_readsWord_143 (by decide) ?_
                          exact ih55 (j + 1) x55_2 (nI (j + 1))  (by omega) (by omega) (by first | (rw [ftWd_t hy9]; done) | (rw [ftWd_f hn9]; exact ex55_2)) (by first | rfl | assumption)  _ _ hP hD hS ls (lv_sub hl [2, 3, 1, 0] rfl)
                        · have hy9 : ftWP tx sp (r - sp) j (ftWs j) := by rw [← hkw]; exact ftB_ne (by rw [← ex84_4]; exact c131)
                          refine lv_iload_n hx hb dX11_readsWord_134 rfl (lv_at hl 3 rfl) ?_
                          refine lv_goto (tgt := 139) hx hb dX11_readsWord_135 (by decide) ?_
                          refine lv_istore_n (lv' := [(2, .int (nI j)), (0, .ref m0), (1, .int (nI sp)), (3, .int (nI j)), (4, .int x84_4), (5, .int (nI k))]) hx hb dX11_readsWord_139 rfl hl (by decide) rfl (fun ls hl => ?_)
                          refine lv_iinc (v := nI (j + 1)) (lv' := [(3, .int (nI (j + 1))), (2, .int (nI j)), (0, .ref m0), (1, .int (nI sp)), (4, .int x84_4), (5, .int (nI k))]) hx hb dX11_readsWord_140 hl (k := 3) rfl (ft_inc j) (by decide) rfl (fun ls hl => ?_)
                          refine lv_goto (tgt := 55) hx hb dX11_readsWord_143 (by decide) ?_
                          exact ih55 (j + 1) (nI j) (nI (j + 1))  (by omega) (by omega) (by first | (rw [ftWd_t hy9]; done) | (rw [ftWd_f hn9]; exact ex55_2)) (by first | rfl | assumption)  _ _ hP hD hS ls (lv_sub hl [2, 3, 1, 0] rfl)
                      · have c90n : k < (ftWs j) := ft_nleN (by omega) (by omega) c90
                        refine lv_iload hx hb dX11_readsWord_93 (lv_at hl 4 rfl) ?_
                        refine lv_if_eq (tgt := 129) hx hb dX11_readsWord_95 (by decide) (fun c95 => ?_) (fun c95 => ?_)
                        · have hn9 : ¬ ftWP tx sp (r - sp) j (ftWs j) := fun q => ftB_eq (by rw [← ex84_4]; exact c95) (ftWP_mono hks q)
                          refine lv_iload hx hb dX11_readsWord_129 (lv_at hl 4 rfl) ?_
                          refine lv_if_eq (tgt := 138) hx hb dX11_readsWord_131 (by decide) (fun c131 => ?_) (fun c131 => ?_)
                          · have hn9 : ¬ ftWP tx sp (r - sp) j (ftWs j) := fun q => ftB_eq (by rw [← ex84_4]; exact c131) (ftWP_mono hks q)
                            refine lv_iload_n hx hb dX11_readsWord_138 rfl (lv_at hl 2 rfl) ?_
                            refine lv_istore_n (lv' := [(2, .int x55_2), (0, .ref m0), (1, .int (nI sp)), (3, .int (nI j)), (4, .int x84_4), (5, .int (nI k))]) hx hb dX11_readsWord_139 rfl hl (by decide) rfl (fun ls hl => ?_)
                            refine lv_iinc (v := nI (j + 1)) (lv' := [(3, .int (nI (j + 1))), (2, .int x55_2), (0, .ref m0), (1, .int (nI sp)), (4, .int x84_4), (5, .int (nI k))]) hx hb dX11_readsWord_140 hl (k := 3) rfl (ft_inc j) (by decide) rfl (fun ls hl => ?_)
                            refine lv_goto (tgt := 55) hx hb dX11_readsWord_143 (by decide) ?_
                            exact ih55 (j + 1) x55_2 (nI (j + 1))  (by omega) (by omega) (by first | (rw [ftWd_t hy9]; done) | (rw [ftWd_f hn9]; exact ex55_2)) (by first | rfl | assumption)  _ _ hP hD hS ls (lv_sub hl [2, 3, 1, 0] rfl)
                          · exact absurd c95 c131
                        · have h9 : ftWP tx sp (r - sp) j k := ftB_ne (by rw [← ex84_4]; exact c95)
                          have hd9 := h9.1
                          refine lv_aload_n hx hb dX11_readsWord_98 rfl (lv_at hl 0 rfl) ?_
                          refine va_get (D := D) (ci := 11) (v := .ref p3) (C := RX11) (T := TX11) (N := 33) hx hb hts (by decide +kernel) hown hK hP 0 rfl rfl 3 (by decide) (hts (.fieldLink RX11 16 "FiberTraceModel" "text" "[I") (by decide +kernel)) (fun _ h9 => h9) rfl dX11_readsWord_99 ?_
                          refine lv_iload_n hx hb dX11_readsWord_102 rfl (lv_at hl 1 rfl) ?_
                          refine lv_iload hx hb dX11_readsWord_103 (lv_at hl 5 rfl) ?_
                          refine lv_iadd hx hb dX11_readsWord_105 ?_
                          refine ft_top (y := nI (sp + k)) (ft_addN sp k) ?_
                          refine va_iald hx hb hK hP 1 0 rfl rfl (vp_in_nI (by omega) (by omega)) dX11_readsWord_106 ?_
                          refine ft_top (y := tx (sp + k)) (ft_clampN (by omega)) ?_
                          refine lv_iload_n hx hb dX11_readsWord_107 rfl (lv_at hl 3 rfl) ?_
                          refine lv_iload hx hb dX11_readsWord_108 (lv_at hl 5 rfl) ?_
                          refine ft_csi (r := ftLt (nI (100 * j + k))) (va_runS (As := [.int (nI j), .int (nI k)]) (rest := [.int (tx (sp + k))]) ⟨hx, hb, hml, hown, hts⟩ (c_X11_letterOf l D cI cS j k (by omega) (by omega)) (va_cwS 2 hts gX11_readsWord_X11_letterOf rfl rfl rfl (by decide +kernel) ⟨Nat.le_of_ble_eq_true rfl, Nat.le_of_ble_eq_true rfl⟩) (ft_preRO hP hKK [] rfl) rfl rfl hl.1 rfl (lv_room (Nat.le_of_ble_eq_true rfl)) dX11_readsWord_110 ⟨Nat.le_of_ble_eq_true rfl, Nat.le_of_ble_eq_true rfl⟩) ?_
                          refine lv_icmp_ne (tgt := 120) hx hb dX11_readsWord_113 (by decide) (fun c113 => ?_) (fun c113 => ?_)
                          · have h7 : ftB (ftWP tx sp (r - sp) j (k + 1)) = 0 := ftB_f (fun q => c113 (q.2 k (by omega)))
                            refine lv_iconst (v := 0) hx hb dX11_readsWord_120 (by decide) ?_
                            refine lv_istore (lv' := [(4, .int 0), (0, .ref m0), (1, .int (nI sp)), (2, .int x55_2), (3, .int (nI j)), (5, .int (nI k))]) hx hb dX11_readsWord_121 hl (by decide) rfl (fun ls hl => ?_)
                            refine lv_iinc (v := nI (k + 1)) (lv' := [(5, .int (nI (k + 1))), (4, .int 0), (0, .ref m0), (1, .int (nI sp)), (2, .int x55_2), (3, .int (nI j))]) hx hb dX11_readsWord_123 hl (k := 5) rfl (ft_inc k) (by decide) rfl (fun ls hl => ?_)
                            refine lv_goto (tgt := 84) hx hb dX11_readsWord_126 (by decide) ?_
                            exact ih84 (k + 1) 0 (nI (k + 1))  (by omega) (by omega) (by exact h7.symm) (by first | rfl | assumption)  _ _ hP hD hS ls (lv_sub hl [2, 3, 4, 5, 1, 0] rfl)
                          · have h7 : ftB (ftWP tx sp (r - sp) j (k + 1)) = 1 := ftB_t (ftWP_s h9 c113)
                            refine lv_iconst (v := 1) hx hb dX11_readsWord_116 (by decide) ?_
                            refine lv_goto (tgt := 121) hx hb dX11_readsWord_117 (by decide) ?_
                            refine lv_istore (lv' := [(4, .int 1), (0, .ref m0), (1, .int (nI sp)), (2, .int x55_2), (3, .int (nI j)), (5, .int (nI k))]) hx hb dX11_readsWord_121 hl (by decide) rfl (fun ls hl => ?_)
                            refine lv_iinc (v := nI (k + 1)) (lv' := [(5, .int (nI (k + 1))), (4, .int 1), (0, .ref m0), (1, .int (nI sp)), (2, .int x55_2), (3, .int (nI j))]) hx hb dX11_readsWord_123 hl (k := 5) rfl (ft_inc k) (by decide) rfl (fun ls hl => ?_)
                            refine lv_goto (tgt := 84) hx hb dX11_readsWord_126 (by decide) ?_
                            exact ih84 (k + 1) 1 (nI (k + 1))  (by omega) (by omega) (by exact h7.symm) (by first | rfl | assumption)  _ _ hP hD hS ls (lv_sub hl [2, 3, 4, 5, 1, 0] rfl)
                  exact lp84 _ 0 0 0  (Nat.lt_succ_self _) (by omega) (by first | exact (ftB_t ⟨c71n, fun t ht => absurd ht (Nat.not_lt_zero t)⟩).symm | exact (ftB_f (fun q => c71n q.1)).symm) (by rfl) _ _ hP hD hS ls (lv_sub hl [2, 3, 4, 5, 1, 0] rfl)
                · have c71n : (r - sp) = (ftWs j) := ft_eqN (by omega) (by omega) c71
                  refine lv_iconst (v := 1) hx hb dX11_readsWord_74 (by decide) ?_
                  refine lv_goto (tgt := 79) hx hb dX11_readsWord_75 (by decide) ?_
                  refine lv_istore (lv' := [(4, .int 1), (0, .ref m0), (1, .int (nI sp)), (2, .int x55_2), (3, .int (nI j))]) hx hb dX11_readsWord_79 hl (by decide) rfl (fun ls hl => ?_)
                  refine lv_iconst (v := 0) hx hb dX11_readsWord_81 (by decide) ?_
                  refine lv_istore (lv' := [(5, .int 0), (4, .int 1), (0, .ref m0), (1, .int (nI sp)), (2, .int x55_2), (3, .int (nI j))]) hx hb dX11_readsWord_82 hl (by decide) rfl (fun ls hl => ?_)
                  have lp84 : ∀ (n84 : Nat) (k : Nat) (x84_4 : Int32) (x84_5 : Int32), ftWs j - k < n84 → (k ≤ ftWs j) → x84_4 = ftB (ftWP tx sp (r - sp) j k) → x84_5 = nI k → ∀ (H : Heap) (locs : List Loc), va_P D vwCl [(m0, .inr (11, [.ref p0, .ref p1, .int i2, .ref p3, .int (nI tn), .ref p5, .int (nI r), .int i7, .int i8, .int i9, .ref p10, .int i11, .ref p12, .ref p13, .ref p14, .int i15, .ref p16, .ref p17, .int i18, .ref p19, .ref p20, .ref p21, .ref p22, .int i23, .int i24, .ref p25, .ref p26, .ref p27, .ref p28, .ref p29, .ref p30, .ref p31, .ref p32])), (p3, .inl (cI, 120, .inl tx))] H → va_D A [(m0, .inr (11, [.ref p0, .ref p1, .int i2, .ref p3, .int (nI tn), .ref p5, .int (nI r), .int i7, .int i8, .int i9, .ref p10, .int i11, .ref p12, .ref p13, .ref p14, .int i15, .ref p16, .ref p17, .int i18, .ref p19, .ref p20, .ref p21, .ref p22, .int i23, .int i24, .ref p25, .ref p26, .ref p27, .ref p28, .ref p29, .ref p30, .ref p31, .ref p32])), (p3, .inl (cI, 120, .inl tx))] → va_S A s.heap H locs → ∀ ls : Array Slot, lv_has ls 6 [(0, .ref m0), (1, .int (nI sp)), (2, .int x55_2), (3, .int (nI j)), (4, .int x84_4), (5, .int x84_5)] → W p l e (headSpec wsX11_readsWord { frames := 1, cells := 0, slots := 0, locals := 25 }).room s m ([.ref m0] : List Value).toArray below meth c H locs 0 0 (MQ below (ftQi D (ftWd tx sp (ftRun tx tn sp) 6) [(m0, .inr (11, [.ref p0, .ref p1, .int i2, .ref p3, .int (nI tn), .ref p5, .int (nI sp), .int i7, .int i8, .int i9, .ref p10, .int i11, .ref p12, .ref p13, .ref p14, .int i15, .ref p16, .ref p17, .int i18, .ref p19, .ref p20, .ref p21, .ref p22, .int i23, .int i24, .ref p25, .ref p26, .ref p27, .ref p28, .ref p29, .ref p30, .ref p31, .ref p32])), (p3, .inl (cI, 120, .inl tx))] [(m0, .inr (11, [.ref p0, .ref p1, .int i2, .ref p3, .int (nI tn), .ref p5, .int (nI (sp + ftRun tx tn sp)), .int i7, .int i8, .int i9, .ref p10, .int i11, .ref p12, .ref p13, .ref p14, .int i15, .ref p16, .ref p17, .int i18, .ref p19, .ref p20, .ref p21, .ref p22, .int i23, .int i24, .ref p25, .ref p26, .ref p27, .ref p28, .ref p29, .ref p30, .ref p31, .ref p32])), (p3, .inl (cI, 120, .inl tx))] s.heap.size) ([.ref m0] : List Value).toArray s 0 0 A) (F0 m 84 ls []) := by
                    intro n84
                    induction n84 with
                    | zero =>
                      intro k x84_4 x84_5  hm84
                      exact absurd hm84 (Nat.not_lt_zero _)
                    | succ n84 ih84 =>
                      intro k x84_4 x84_5  hm84 hks ex84_4 ex84_5  H locs hP hD hS ls hl
                      subst ex84_5
                      refine lv_iload hx hb dX11_readsWord_84 (lv_at hl 5 rfl) ?_
                      refine lv_iload_n hx hb dX11_readsWord_86 rfl (lv_at hl 3 rfl) ?_
                      refine ft_csi (r := nI (ftWs j)) (va_runS (As := [.int (nI j)]) (rest := [.int (nI k)]) ⟨hx, hb, hml, hown, hts⟩ (c_X11_wordSize l D cI cS j (by omega)) (va_cwS 1 hts gX11_readsWord_X11_wordSize rfl rfl rfl (by decide +kernel) ⟨Nat.le_of_ble_eq_true rfl, Nat.le_of_ble_eq_true rfl⟩) (ft_preRO hP hKK [] rfl) rfl rfl hl.1 rfl (lv_room (Nat.le_of_ble_eq_true rfl)) dX11_readsWord_87 ⟨Nat.le_of_ble_eq_true rfl, Nat.le_of_ble_eq_true rfl⟩) ?_
                      refine lv_icmp_ge (tgt := 129) hx hb dX11_readsWord_90 (by decide) (fun c90 => ?_) (fun c90 => ?_)
                      · have c90n : (ftWs j) ≤ k := ft_leN (by omega) (by omega) c90
                        have hkw : k = ftWs j := by omega
                        refine lv_iload hx hb dX11_readsWord_129 (lv_at hl 4 rfl) ?_
                        refine lv_if_eq (tgt := 138) hx hb dX11_readsWord_131 (by decide) (fun c131 => ?_) (fun c131 => ?_)
                        · have hn9 : ¬ ftWP tx sp (r - sp) j (ftWs j) := fun q => ftB_eq (by rw [← ex84_4]; exact c131) (ftWP_mono hks q)
                          refine lv_iload_n hx hb dX11_readsWord_138 rfl (lv_at hl 2 rfl) ?_
                          refine lv_istore_n (lv' := [(2, .int x55_2), (0, .ref m0), (1, .int (nI sp)), (3, .int (nI j)), (4, .int x84_4), (5, .int (nI k))]) hx hb dX11_readsWord_139 rfl hl (by decide) rfl (fun ls hl => ?_)
                          refine lv_iinc (v := nI (j + 1)) (lv' := [(3, .int (nI (j + 1))), (2, .int x55_2), (0, .ref m0), (1, .int (nI sp)), (4, .int x84_4), (5, .int (nI k))]) hx hb dX11_readsWord_140 hl (k := 3) rfl (ft_inc j) (by decide) rfl (fun ls hl => ?_)
                          refine lv_goto (tgt := 55) hx hb dX11_readsWord_143 (by decide) ?_
                          exact ih55 (j + 1) x55_2 (nI (j + 1))  (by omega) (by omega) (by first | (rw [ftWd_t hy9]; done) | (rw [ftWd_f hn9]; exact ex55_2)) (by first | rfl | assumption)  _ _ hP hD hS ls (lv_sub hl [2, 3, 1, 0] rfl)
                        · have hy9 : ftWP tx sp (r - sp) j (ftWs j) := by rw [← hkw]; exact ftB_ne (by rw [← ex84_4]; exact c131)
                          refine lv_iload_n hx hb dX11_readsWord_134 rfl (lv_at hl 3 rfl) ?_
                          refine lv_goto (tgt := 139) hx hb dX11_readsWord_135 (by decide) ?_
                          refine lv_istore_n (lv' := [(2, .int (nI j)), (0, .ref m0), (1, .int (nI sp)), (3, .int (nI j)), (4, .int x84_4), (5, .int (nI k))]) hx hb dX11_readsWord_139 rfl hl (by decide) rfl (fun ls hl => ?_)
                          refine lv_iinc (v := nI (j + 1)) (lv' := [(3, .int (nI (j + 1))), (2, .int (nI j)), (0, .ref m0), (1, .int (nI sp)), (4, .int x84_4), (5, .int (nI k))]) hx hb dX11_readsWord_140 hl (k := 3) rfl (ft_inc j) (by decide) rfl (fun ls hl => ?_)
                          refine lv_goto (tgt := 55) hx hb dX11_readsWord_143 (by decide) ?_
                          exact ih55 (j + 1) (nI j) (nI (j + 1))  (by omega) (by omega) (by first | (rw [ftWd_t hy9]; done) | (rw [ftWd_f hn9]; exact ex55_2)) (by first | rfl | assumption)  _ _ hP hD hS ls (lv_sub hl [2, 3, 1, 0] rfl)
                      · have c90n : k < (ftWs j) := ft_nleN (by omega) (by omega) c90
                        refine lv_iload hx hb dX11_readsWord_93 (lv_at hl 4 rfl) ?_
                        refine lv_if_eq (tgt := 129) hx hb dX11_readsWord_95 (by decide) (fun c95 => ?_) (fun c95 => ?_)
                        · have hn9 : ¬ ftWP tx sp (r - sp) j (ftWs j) := fun q => ftB_eq (by rw [← ex84_4]; exact c95) (ftWP_mono hks q)
                          refine lv_iload hx hb dX11_readsWord_129 (lv_at hl 4 rfl) ?_
                          refine lv_if_eq (tgt := 138) hx hb dX11_readsWord_131 (by decide) (fun c131 => ?_) (fun c131 => ?_)
                          · have hn9 : ¬ ftWP tx sp (r - sp) j (ftWs j) := fun q => ftB_eq (by rw [← ex84_4]; exact c131) (ftWP_mono hks q)
                            refine lv_iload_n hx hb dX11_readsWord_138 rfl (lv_at hl 2 rfl) ?_
                            refine lv_istore_n (lv' := [(2, .int x55_2), (0, .ref m0), (1, .int (nI sp)), (3, .int (nI j)), (4, .int x84_4), (5, .int (nI k))]) hx hb dX11_readsWord_139 rfl hl (by decide) rfl (fun ls hl => ?_)
                            refine lv_iinc (v := nI (j + 1)) (lv' := [(3, .int (nI (j + 1))), (2, .int x55_2), (0, .ref m0), (1, .int (nI sp)), (4, .int x84_4), (5, .int (nI k))]) hx hb dX11_readsWord_140 hl (k := 3) rfl (ft_inc j) (by decide) rfl (fun ls hl => ?_)
                            refine lv_goto (tgt := 55) hx hb dX11_readsWord_143 (by decide) ?_
                            exact ih55 (j + 1) x55_2 (nI (j + 1))  (by omega) (by omega) (by first | (rw [ftWd_t hy9]; done) | (rw [ftWd_f hn9]; exact ex55_2)) (by first | rfl | assumption)  _ _ hP hD hS ls (lv_sub hl [2, 3, 1, 0] rfl)
                          · exact absurd c95 c131
                        · have h9 : ftWP tx sp (r - sp) j k := ftB_ne (by rw [← ex84_4]; exact c95)
                          have hd9 := h9.1
                          refine lv_aload_n hx hb dX11_readsWord_98 rfl (lv_at hl 0 rfl) ?_
                          refine va_get (D := D) (ci := 11) (v := .ref p3) (C := RX11) (T := TX11) (N := 33) hx hb hts (by decide +kernel) hown hK hP 0 rfl rfl 3 (by decide) (hts (.fieldLink RX11 16 "FiberTraceModel" "text" "[I") (by decide +kernel)) (fun _ h9 => h9) rfl dX11_readsWord_99 ?_
                          refine lv_iload_n hx hb dX11_readsWord_102 rfl (lv_at hl 1 rfl) ?_
                          refine lv_iload hx hb dX11_readsWord_103 (lv_at hl 5 rfl) ?_
                          refine lv_iadd hx hb dX11_readsWord_105 ?_
                          refine ft_top (y := nI (sp + k)) (ft_addN sp k) ?_
                          refine va_iald hx hb hK hP 1 0 rfl rfl (vp_in_nI (by omega) (by omega)) dX11_readsWord_106 ?_
                          refine ft_top (y := tx (sp + k)) (ft_clampN (by omega)) ?_
                          refine lv_iload_n hx hb dX11_readsWord_107 rfl (lv_at hl 3 rfl) ?_
                          refine lv_iload hx hb dX11_readsWord_108 (lv_at hl 5 rfl) ?_
                          refine ft_csi (r := ftLt (nI (100 * j + k))) (va_runS (As := [.int (nI j), .int (nI k)]) (rest := [.int (tx (sp + k))]) ⟨hx, hb, hml, hown, hts⟩ (c_X11_letterOf l D cI cS j k (by omega) (by omega)) (va_cwS 2 hts gX11_readsWord_X11_letterOf rfl rfl rfl (by decide +kernel) ⟨Nat.le_of_ble_eq_true rfl, Nat.le_of_ble_eq_true rfl⟩) (ft_preRO hP hKK [] rfl) rfl rfl hl.1 rfl (lv_room (Nat.le_of_ble_eq_true rfl)) dX11_readsWord_110 ⟨Nat.le_of_ble_eq_true rfl, Nat.le_of_ble_eq_true rfl⟩) ?_
                          refine lv_icmp_ne (tgt := 120) hx hb dX11_readsWord_113 (by decide) (fun c113 => ?_) (fun c113 => ?_)
                          · have h7 : ftB (ftWP tx sp (r - sp) j (k + 1)) = 0 := ftB_f (fun q => c113 (q.2 k (by omega)))
                            refine lv_iconst (v := 0) hx hb dX11_readsWord_120 (by decide) ?_
                            refine lv_istore (lv' := [(4, .int 0), (0, .ref m0), (1, .int (nI sp)), (2, .int x55_2), (3, .int (nI j)), (5, .int (nI k))]) hx hb dX11_readsWord_121 hl (by decide) rfl (fun ls hl => ?_)
                            refine lv_iinc (v := nI (k + 1)) (lv' := [(5, .int (nI (k + 1))), (4, .int 0), (0, .ref m0), (1, .int (nI sp)), (2, .int x55_2), (3, .int (nI j))]) hx hb dX11_readsWord_123 hl (k := 5) rfl (ft_inc k) (by decide) rfl (fun ls hl => ?_)
                            refine lv_goto (tgt := 84) hx hb dX11_readsWord_126 (by decide) ?_
                            exact ih84 (k + 1) 0 (nI (k + 1))  (by omega) (by omega) (by exact h7.symm) (by first | rfl | assumption)  _ _ hP hD hS ls (lv_sub hl [2, 3, 4, 5, 1, 0] rfl)
                          · have h7 : ftB (ftWP tx sp (r - sp) j (k + 1)) = 1 := ftB_t (ftWP_s h9 c113)
                            refine lv_iconst (v := 1) hx hb dX11_readsWord_116 (by decide) ?_
                            refine lv_goto (tgt := 121) hx hb dX11_readsWord_117 (by decide) ?_
                            refine lv_istore (lv' := [(4, .int 1), (0, .ref m0), (1, .int (nI sp)), (2, .int x55_2), (3, .int (nI j)), (5, .int (nI k))]) hx hb dX11_readsWord_121 hl (by decide) rfl (fun ls hl => ?_)
                            refine lv_iinc (v := nI (k + 1)) (lv' := [(5, .int (nI (k + 1))), (4, .int 1), (0, .ref m0), (1, .int (nI sp)), (2, .int x55_2), (3, .int (nI j))]) hx hb dX11_readsWord_123 hl (k := 5) rfl (ft_inc k) (by decide) rfl (fun ls hl => ?_)
                            refine lv_goto (tgt := 84) hx hb dX11_readsWord_126 (by decide) ?_
                            exact ih84 (k + 1) 1 (nI (k + 1))  (by omega) (by omega) (by exact h7.symm) (by first | rfl | assumption)  _ _ hP hD hS ls (lv_sub hl [2, 3, 4, 5, 1, 0] rfl)
                  exact lp84 _ 0 1 0  (Nat.lt_succ_self _) (by omega) (by first | exact (ftB_t ⟨c71n, fun t ht => absurd ht (Nat.not_lt_zero t)⟩).symm | exact (ftB_f (fun q => c71n q.1)).symm) (by rfl) _ _ hP hD hS ls (lv_sub hl [2, 3, 4, 5, 1, 0] rfl)
          exact lp55 _ 0 (-1) 0  (Nat.lt_succ_self _) (by omega) (by rfl) (by rfl) _ _ hP hD hS ls (lv_sub hl [2, 3, 1, 0] rfl)
        · replace c35 := ftB_ne c35
          have hlo := c35
          refine lv_aload_n hx hb dX11_readsWord_38 rfl (lv_at hl 0 rfl) ?_
          refine lv_dup hx hb dX11_readsWord_39 rfl ?_
          refine va_get (D := D) (ci := 11) (v := .int (nI r)) (C := RX11) (T := TX11) (N := 33) hx hb hts (by decide +kernel) hown hK hP 0 rfl rfl 6 (by decide) (hts (.fieldLink RX11 100 "FiberTraceModel" "spot" "I") (by decide +kernel)) (fun _ h9 => h9) rfl dX11_readsWord_40 ?_
          refine lv_iconst (v := 1) hx hb dX11_readsWord_43 (by decide) ?_
          refine lv_iadd hx hb dX11_readsWord_44 ?_
          refine ft_top (y := nI (r + 1)) (ft_addN r 1) ?_
          refine va_put (D := D) (ci := 11) (v := .int (nI (r + 1))) (ty := .int) (C := RX11) (T := TX11) (N := 33) hx hb hts (by decide +kernel) tyX11 tyX11_ok nmX11 hown hK hP hD hS 0 rfl rfl 6 (by decide) (hts (.fieldLink RX11 100 "FiberTraceModel" "spot" "I") (by decide +kernel)) (fun _ h9 => h9) rfl (by decide +kernel) rfl rfl (Nat.le_of_ble_eq_true rfl) dX11_readsWord_45 (fun H locs hP hD hS => ?_)
          have hP : va_P D vwCl [(m0, .inr (11, [.ref p0, .ref p1, .int i2, .ref p3, .int (nI tn), .ref p5, .int (nI (r + 1)), .int i7, .int i8, .int i9, .ref p10, .int i11, .ref p12, .ref p13, .ref p14, .int i15, .ref p16, .ref p17, .int i18, .ref p19, .ref p20, .ref p21, .ref p22, .int i23, .int i24, .ref p25, .ref p26, .ref p27, .ref p28, .ref p29, .ref p30, .ref p31, .ref p32])), (p3, .inl (cI, 120, .inl tx))] H := hP
          have hD : va_D A [(m0, .inr (11, [.ref p0, .ref p1, .int i2, .ref p3, .int (nI tn), .ref p5, .int (nI (r + 1)), .int i7, .int i8, .int i9, .ref p10, .int i11, .ref p12, .ref p13, .ref p14, .int i15, .ref p16, .ref p17, .int i18, .ref p19, .ref p20, .ref p21, .ref p22, .int i23, .int i24, .ref p25, .ref p26, .ref p27, .ref p28, .ref p29, .ref p30, .ref p31, .ref p32])), (p3, .inl (cI, 120, .inl tx))] := hD
          refine lv_goto (tgt := 5) hx hb dX11_readsWord_48 (by decide) ?_
          exact ih5 (r + 1)  (nI (r + 1)) (by omega) (by omega) (by omega) (by intro t ht; rcases Nat.lt_or_ge t (r - sp) with q | q; exact hall t q; obtain rfl : t = r - sp := (by omega); rw [show sp + (r - sp) = r by omega]; exact ⟨c13n, hlo⟩)  (by first | rfl | assumption) _ _ hP hD hS ls (lv_sub hl [0, 1] rfl)
  exact lp5 _ sp  (nI sp) (Nat.lt_succ_self _) (by omega) (by omega) (by intro t ht; omega) (by rfl) _ _ hP hD hS ls (lv_sub hl [1, 0] rfl)
set_option maxHeartbeats 4000000 in
set_option maxRecDepth 100000 in
theorem c_X11_readsNumber (l : Launch) (D : va_G) (cI cS : ClassId) (sz : Nat) (m0 p0 p1 p3 p5 p10 p12 p13 p14 p16 p17 p19 p20 p21 p22 p25 p26 p27 p28 p29 p30 p31 p32 : Nat) (i2 i7 i8 i9 i11 i15 i18 i23 i24 : Int32) (tx fg : Nat → Int32) (tn sp i : Nat) (htn : tn ≤ 120) (hp9 : sp ≤ tn) (hi : i < 3) : Met l yX11_readsNumber wsX11_readsNumber ({ frames := 1, cells := 0, slots := 0, locals := 25 }) (ftRW D cI cS [.ref m0, .int (nI i)] [(m0, .inr (11, [.ref p0, .ref p1, .int i2, .ref p3, .int (nI tn), .ref p5, .int (nI sp), .int i7, .int i8, .int i9, .ref p10, .int i11, .ref p12, .ref p13, .ref p14, .int i15, .ref p16, .ref p17, .int i18, .ref p19, .ref p20, .ref p21, .ref p22, .int i23, .int i24, .ref p25, .ref p26, .ref p27, .ref p28, .ref p29, .ref p30, .ref p31, .ref p32])), (p3, .inl (cI, 120, .inl tx)), (p10, .inl (cI, 3, .inl fg))] sz) (ftQv D [(m0, .inr (11, [.ref p0, .ref p1, .int i2, .ref p3, .int (nI tn), .ref p5, .int (nI sp), .int i7, .int i8, .int i9, .ref p10, .int i11, .ref p12, .ref p13, .ref p14, .int i15, .ref p16, .ref p17, .int i18, .ref p19, .ref p20, .ref p21, .ref p22, .int i23, .int i24, .ref p25, .ref p26, .ref p27, .ref p28, .ref p29, .ref p30, .ref p31, .ref p32])), (p3, .inl (cI, 120, .inl tx)), (p10, .inl (cI, 3, .inl fg))] [(m0, .inr (11, [.ref p0, .ref p1, .int i2, .ref p3, .int (nI tn), .ref p5, .int (nI (ftNe tx tn sp)), .int i7, .int i8, .int i9, .ref p10, .int (ftB (ftNok tx tn sp)), .ref p12, .ref p13, .ref p14, .int i15, .ref p16, .ref p17, .int i18, .ref p19, .ref p20, .ref p21, .ref p22, .int i23, .int i24, .ref p25, .ref p26, .ref p27, .ref p28, .ref p29, .ref p30, .ref p31, .ref p32])), (p3, .inl (cI, 120, .inl tx)), (p10, .inl (cI, 3, .inl (ftNf tx tn sp i fg)))] sz) 0 0 (va_A [(m0, .inr (11, [.ref p0, .ref p1, .int i2, .ref p3, .int (nI tn), .ref p5, .int (nI sp), .int i7, .int i8, .int i9, .ref p10, .int i11, .ref p12, .ref p13, .ref p14, .int i15, .ref p16, .ref p17, .int i18, .ref p19, .ref p20, .ref p21, .ref p22, .int i23, .int i24, .ref p25, .ref p26, .ref p27, .ref p28, .ref p29, .ref p30, .ref p31, .ref p32])), (p3, .inl (cI, 120, .inl tx)), (p10, .inl (cI, 3, .inl fg))] sz) := by
  refine Met.ofW (cc := cX11_readsNumber) (maxL := 5) (ret := none) (by decide) rfl ?_
  intro p e s m args below meth c s₁ B hml hv
  obtain ⟨rfl, hsz, hP, hKK, hD0⟩ := hv
  have hK := hKK.1
  have hx := B.exec
  have hb := B.bytes
  have hr := B.returns
  have hts := atoms_spec (ws := wsX11_readsNumber) B.pre
  have hown : s.vm.findClass RX11 = some m.cls := findClass_of_methodNamed B.named
  have hlocks := B.notSynchronized
  subst hsz
  have hD := hD0.self (sz := s.heap.size)
  generalize hAe : va_A [(m0, .inr (11, [.ref p0, .ref p1, .int i2, .ref p3, .int (nI tn), .ref p5, .int (nI sp), .int i7, .int i8, .int i9, .ref p10, .int i11, .ref p12, .ref p13, .ref p14, .int i15, .ref p16, .ref p17, .int i18, .ref p19, .ref p20, .ref p21, .ref p22, .int i23, .int i24, .ref p25, .ref p26, .ref p27, .ref p28, .ref p29, .ref p30, .ref p31, .ref p32])), (p3, .inl (cI, 120, .inl tx)), (p10, .inl (cI, 3, .inl fg))] s.heap.size = A at hD ⊢
  have hA : ∀ q : Nat, s.heap.size ≤ q → A q := fun q h => by rw [← hAe]; exact Or.inr h
  have hS : va_S A s.heap s.heap [] := va_S.rf
  have hD : va_D A [(m0, .inr (11, [.ref p0, .ref p1, .int i2, .ref p3, .int (nI tn), .ref p5, .int (nI sp), .int i7, .int i8, .int i9, .ref p10, .int i11, .ref p12, .ref p13, .ref p14, .int i15, .ref p16, .ref p17, .int i18, .ref p19, .ref p20, .ref p21, .ref p22, .int i23, .int i24, .ref p25, .ref p26, .ref p27, .ref p28, .ref p29, .ref p30, .ref p31, .ref p32])), (p3, .inl (cI, 120, .inl tx)), (p10, .inl (cI, 3, .inl fg))] := hD
  have hP : va_P D vwCl [(m0, .inr (11, [.ref p0, .ref p1, .int i2, .ref p3, .int (nI tn), .ref p5, .int (nI sp), .int i7, .int i8, .int i9, .ref p10, .int i11, .ref p12, .ref p13, .ref p14, .int i15, .ref p16, .ref p17, .int i18, .ref p19, .ref p20, .ref p21, .ref p22, .int i23, .int i24, .ref p25, .ref p26, .ref p27, .ref p28, .ref p29, .ref p30, .ref p31, .ref p32])), (p3, .inl (cI, 120, .inl tx)), (p10, .inl (cI, 3, .inl fg))] s.heap := hP
  have hl := lv_entry ([.ref m0, .int (nI i)]) (n := 5) (Nat.le_of_ble_eq_true rfl)
  rw [lg_entry_eq]
  generalize (lg_sl ([.ref m0, .int (nI i)]) ++ List.replicate (5 - (lg_sl ([.ref m0, .int (nI i)])).length) Slot.unset).toArray = ls at hl ⊢
  have hl : lv_has ls 5 [(0, .ref m0), (1, .int (nI i))] := hl
  refine lv_aload_n hx hb dX11_readsNumber_0 rfl (lv_at hl 0 rfl) ?_
  refine lv_iconst (v := 0) hx hb dX11_readsNumber_1 (by decide) ?_
  refine va_put (D := D) (ci := 11) (v := .int 0) (ty := .boolean) (C := RX11) (T := TX11) (N := 33) hx hb hts (by decide +kernel) tyX11 tyX11_ok nmX11 hown hK hP hD hS 0 rfl rfl 11 (by decide) (hts (.fieldLink RX11 114 "FiberTraceModel" "isFigured" "Z") (by decide +kernel)) (fun _ h9 => h9) rfl (by decide +kernel) (by first | rfl | exact ftB_nar) rfl (Nat.le_of_ble_eq_true rfl) dX11_readsNumber_2 (fun H locs hP hD hS => ?_)
  have hP : va_P D vwCl [(m0, .inr (11, [.ref p0, .ref p1, .int i2, .ref p3, .int (nI tn), .ref p5, .int (nI sp), .int i7, .int i8, .int i9, .ref p10, .int 0, .ref p12, .ref p13, .ref p14, .int i15, .ref p16, .ref p17, .int i18, .ref p19, .ref p20, .ref p21, .ref p22, .int i23, .int i24, .ref p25, .ref p26, .ref p27, .ref p28, .ref p29, .ref p30, .ref p31, .ref p32])), (p3, .inl (cI, 120, .inl tx)), (p10, .inl (cI, 3, .inl fg))] H := hP
  have hD : va_D A [(m0, .inr (11, [.ref p0, .ref p1, .int i2, .ref p3, .int (nI tn), .ref p5, .int (nI sp), .int i7, .int i8, .int i9, .ref p10, .int 0, .ref p12, .ref p13, .ref p14, .int i15, .ref p16, .ref p17, .int i18, .ref p19, .ref p20, .ref p21, .ref p22, .int i23, .int i24, .ref p25, .ref p26, .ref p27, .ref p28, .ref p29, .ref p30, .ref p31, .ref p32])), (p3, .inl (cI, 120, .inl tx)), (p10, .inl (cI, 3, .inl fg))] := hD
  refine lv_aload_n hx hb dX11_readsNumber_5 rfl (lv_at hl 0 rfl) ?_
  refine va_get (D := D) (ci := 11) (v := .int (nI sp)) (C := RX11) (T := TX11) (N := 33) hx hb hts (by decide +kernel) hown hK hP 0 rfl rfl 6 (by decide) (hts (.fieldLink RX11 100 "FiberTraceModel" "spot" "I") (by decide +kernel)) (fun _ h9 => h9) rfl dX11_readsNumber_6 ?_
  refine lv_aload_n hx hb dX11_readsNumber_9 rfl (lv_at hl 0 rfl) ?_
  refine va_get (D := D) (ci := 11) (v := .int (nI tn)) (C := RX11) (T := TX11) (N := 33) hx hb hts (by decide +kernel) hown hK hP 0 rfl rfl 4 (by decide) (hts (.fieldLink RX11 96 "FiberTraceModel" "length" "I") (by decide +kernel)) (fun _ h9 => h9) rfl dX11_readsNumber_10 ?_
  refine lv_icmp_eq (tgt := 30) hx hb dX11_readsNumber_13 (by decide) (fun c13 => ?_) (fun c13 => ?_)
  · have c13n : sp = tn := ft_eqN (by omega) (by omega) c13
    have hns : ¬ ftSp tx tn sp := fun q => absurd q.1 (by omega)
    have hw9 : ([(m0, .inr (11, [.ref p0, .ref p1, .int i2, .ref p3, .int (nI tn), .ref p5, .int (nI sp), .int i7, .int i8, .int i9, .ref p10, .int 0, .ref p12, .ref p13, .ref p14, .int i15, .ref p16, .ref p17, .int i18, .ref p19, .ref p20, .ref p21, .ref p22, .int i23, .int i24, .ref p25, .ref p26, .ref p27, .ref p28, .ref p29, .ref p30, .ref p31, .ref p32])), (p3, .inl (cI, 120, .inl tx)), (p10, .inl (cI, 3, .inl fg))] : va_W) = [(m0, .inr (11, [.ref p0, .ref p1, .int i2, .ref p3, .int (nI tn), .ref p5, .int (nI (ftNe tx tn sp)), .int i7, .int i8, .int i9, .ref p10, .int (ftB (ftNok tx tn sp)), .ref p12, .ref p13, .ref p14, .int i15, .ref p16, .ref p17, .int i18, .ref p19, .ref p20, .ref p21, .ref p22, .int i23, .int i24, .ref p25, .ref p26, .ref p27, .ref p28, .ref p29, .ref p30, .ref p31, .ref p32])), (p3, .inl (cI, 120, .inl tx)), (p10, .inl (cI, 3, .inl (ftNf tx tn sp i fg)))] := by rw [ftNe_f hns, ftNf_f hns, ftB_f (fun q : ftNok tx tn sp => hns q.1)]
    rw [hw9] at hP hD
    exact W.vret hx hb hr (fun t ht hW => ⟨⟨(), rfl, trivial, by rw [ht]; exact hP, by rw [hAe]; exact hD⟩, by rw [hAe]; exact hS.F ht⟩) hS.2.2 dX11_readsNumber_30
  · have c13n : sp ≠ tn := ft_neN (by omega) (by omega) c13
    refine lv_aload_n hx hb dX11_readsNumber_16 rfl (lv_at hl 0 rfl) ?_
    refine va_get (D := D) (ci := 11) (v := .ref p3) (C := RX11) (T := TX11) (N := 33) hx hb hts (by decide +kernel) hown hK hP 0 rfl rfl 3 (by decide) (hts (.fieldLink RX11 16 "FiberTraceModel" "text" "[I") (by decide +kernel)) (fun _ h9 => h9) rfl dX11_readsNumber_17 ?_
    refine lv_aload_n hx hb dX11_readsNumber_20 rfl (lv_at hl 0 rfl) ?_
    refine va_get (D := D) (ci := 11) (v := .int (nI sp)) (C := RX11) (T := TX11) (N := 33) hx hb hts (by decide +kernel) hown hK hP 0 rfl rfl 6 (by decide) (hts (.fieldLink RX11 100 "FiberTraceModel" "spot" "I") (by decide +kernel)) (fun _ h9 => h9) rfl dX11_readsNumber_21 ?_
    refine va_iald hx hb hK hP 1 0 rfl rfl (vp_in_nI (by omega) (by omega)) dX11_readsNumber_24 ?_
    refine ft_top (y := tx sp) (ft_clampN (by omega)) ?_
    refine lv_bipush (v := 32) hx hb dX11_readsNumber_25 (by decide) ?_
    refine lv_icmp_eq (tgt := 31) hx hb dX11_readsNumber_27 (by decide) (fun c27 => ?_) (fun c27 => ?_)
    · have hsp : ftSp tx tn sp := ⟨by omega, c27⟩
      refine lv_aload_n hx hb dX11_readsNumber_31 rfl (lv_at hl 0 rfl) ?_
      refine lv_dup hx hb dX11_readsNumber_32 rfl ?_
      refine va_get (D := D) (ci := 11) (v := .int (nI sp)) (C := RX11) (T := TX11) (N := 33) hx hb hts (by decide +kernel) hown hK hP 0 rfl rfl 6 (by decide) (hts (.fieldLink RX11 100 "FiberTraceModel" "spot" "I") (by decide +kernel)) (fun _ h9 => h9) rfl dX11_readsNumber_33 ?_
      refine lv_iconst (v := 1) hx hb dX11_readsNumber_36 (by decide) ?_
      refine lv_iadd hx hb dX11_readsNumber_37 ?_
      refine ft_top (y := nI (sp + 1)) (ft_addN sp 1) ?_
      refine va_put (D := D) (ci := 11) (v := .int (nI (sp + 1))) (ty := .int) (C := RX11) (T := TX11) (N := 33) hx hb hts (by decide +kernel) tyX11 tyX11_ok nmX11 hown hK hP hD hS 0 rfl rfl 6 (by decide) (hts (.fieldLink RX11 100 "FiberTraceModel" "spot" "I") (by decide +kernel)) (fun _ h9 => h9) rfl (by decide +kernel) rfl rfl (Nat.le_of_ble_eq_true rfl) dX11_readsNumber_38 (fun H locs hP hD hS => ?_)
      have hP : va_P D vwCl [(m0, .inr (11, [.ref p0, .ref p1, .int i2, .ref p3, .int (nI tn), .ref p5, .int (nI (sp + 1)), .int i7, .int i8, .int i9, .ref p10, .int 0, .ref p12, .ref p13, .ref p14, .int i15, .ref p16, .ref p17, .int i18, .ref p19, .ref p20, .ref p21, .ref p22, .int i23, .int i24, .ref p25, .ref p26, .ref p27, .ref p28, .ref p29, .ref p30, .ref p31, .ref p32])), (p3, .inl (cI, 120, .inl tx)), (p10, .inl (cI, 3, .inl fg))] H := hP
      have hD : va_D A [(m0, .inr (11, [.ref p0, .ref p1, .int i2, .ref p3, .int (nI tn), .ref p5, .int (nI (sp + 1)), .int i7, .int i8, .int i9, .ref p10, .int 0, .ref p12, .ref p13, .ref p14, .int i15, .ref p16, .ref p17, .int i18, .ref p19, .ref p20, .ref p21, .ref p22, .int i23, .int i24, .ref p25, .ref p26, .ref p27, .ref p28, .ref p29, .ref p30, .ref p31, .ref p32])), (p3, .inl (cI, 120, .inl tx)), (p10, .inl (cI, 3, .inl fg))] := hD
      refine lv_iconst (v := 1) hx hb dX11_readsNumber_41 (by decide) ?_
      refine lv_istore_n (lv' := [(2, .int 1), (0, .ref m0), (1, .int (nI i))]) hx hb dX11_readsNumber_42 rfl hl (by decide) rfl (fun ls hl => ?_)
      refine lv_aload_n hx hb dX11_readsNumber_43 rfl (lv_at hl 1 rfl) ?_
      refine va_get (D := D) (ci := 11) (v := .int (nI (sp + 1))) (C := RX11) (T := TX11) (N := 33) hx hb hts (by decide +kernel) hown hK hP 0 rfl rfl 6 (by decide) (hts (.fieldLink RX11 100 "FiberTraceModel" "spot" "I") (by decide +kernel)) (fun _ h9 => h9) rfl dX11_readsNumber_44 ?_
      refine lv_aload_n hx hb dX11_readsNumber_47 rfl (lv_at hl 1 rfl) ?_
      refine va_get (D := D) (ci := 11) (v := .int (nI tn)) (C := RX11) (T := TX11) (N := 33) hx hb hts (by decide +kernel) hown hK hP 0 rfl rfl 4 (by decide) (hts (.fieldLink RX11 96 "FiberTraceModel" "length" "I") (by decide +kernel)) (fun _ h9 => h9) rfl dX11_readsNumber_48 ?_
      refine lv_icmp_ge (tgt := 80) hx hb dX11_readsNumber_51 (by decide) (fun c51 => ?_) (fun c51 => ?_)
      · have c51n : tn ≤ (sp + 1) := ft_leN (by omega) (by omega) c51
        have hng : ¬ ftNg tx tn sp := fun q => absurd q.1 (by omega)
        have hq8 : ftNq tx tn sp = sp + 1 := ftNq_f hng
        obtain ⟨q9, hq9⟩ : ∃ q9, q9 = sp + 1 := ⟨_, rfl⟩
        have hqq : ftNq tx tn sp = q9 := by rw [hq9]; exact hq8
        have hqn : q9 ≤ tn := by omega
        refine lv_iconst (v := 0) hx hb dX11_readsNumber_80 (by decide) ?_
        refine lv_istore_n (lv' := [(3, .int 0), (2, .int 1), (0, .ref m0), (1, .int (nI i))]) hx hb dX11_readsNumber_81 rfl hl (by decide) rfl (fun ls hl => ?_)
        refine lv_iconst (v := 0) hx hb dX11_readsNumber_82 (by decide) ?_
        refine lv_istore (lv' := [(4, .int 0), (3, .int 0), (2, .int 1), (0, .ref m0), (1, .int (nI i))]) hx hb dX11_readsNumber_83 hl (by decide) rfl (fun ls hl => ?_)
        have lp85 : ∀ (n85 : Nat) (k : Nat) (x85_3 : Int32) (x85_4 : Int32) (g85_m0_6 : Int32), 5 - k < n85 → (k ≤ 5) → (∀ t, t < k → ftDp tx tn q9 t) → (q9 + k ≤ tn) → x85_3 = ftDg tx q9 k → x85_4 = nI k → g85_m0_6 = nI (q9 + k) → ∀ (H : Heap) (locs : List Loc), va_P D vwCl [(m0, .inr (11, [.ref p0, .ref p1, .int i2, .ref p3, .int (nI tn), .ref p5, .int g85_m0_6, .int i7, .int i8, .int i9, .ref p10, .int 0, .ref p12, .ref p13, .ref p14, .int i15, .ref p16, .ref p17, .int i18, .ref p19, .ref p20, .ref p21, .ref p22, .int i23, .int i24, .ref p25, .ref p26, .ref p27, .ref p28, .ref p29, .ref p30, .ref p31, .ref p32])), (p3, .inl (cI, 120, .inl tx)), (p10, .inl (cI, 3, .inl fg))] H → va_D A [(m0, .inr (11, [.ref p0, .ref p1, .int i2, .ref p3, .int (nI tn), .ref p5, .int g85_m0_6, .int i7, .int i8, .int i9, .ref p10, .int 0, .ref p12, .ref p13, .ref p14, .int i15, .ref p16, .ref p17, .int i18, .ref p19, .ref p20, .ref p21, .ref p22, .int i23, .int i24, .ref p25, .ref p26, .ref p27, .ref p28, .ref p29, .ref p30, .ref p31, .ref p32])), (p3, .inl (cI, 120, .inl tx)), (p10, .inl (cI, 3, .inl fg))] → va_S A s.heap H locs → ∀ ls : Array Slot, lv_has ls 5 [(0, .ref m0), (1, .int (nI i)), (2, .int 1), (3, .int x85_3), (4, .int x85_4)] → W p l e (headSpec wsX11_readsNumber { frames := 1, cells := 0, slots := 0, locals := 25 }).room s m ([.ref m0, .int (nI i)] : List Value).toArray below meth c H locs 0 0 (MQ below (ftQv D [(m0, .inr (11, [.ref p0, .ref p1, .int i2, .ref p3, .int (nI tn), .ref p5, .int (nI sp), .int i7, .int i8, .int i9, .ref p10, .int i11, .ref p12, .ref p13, .ref p14, .int i15, .ref p16, .ref p17, .int i18, .ref p19, .ref p20, .ref p21, .ref p22, .int i23, .int i24, .ref p25, .ref p26, .ref p27, .ref p28, .ref p29, .ref p30, .ref p31, .ref p32])), (p3, .inl (cI, 120, .inl tx)), (p10, .inl (cI, 3, .inl fg))] [(m0, .inr (11, [.ref p0, .ref p1, .int i2, .ref p3, .int (nI tn), .ref p5, .int (nI (ftNe tx tn sp)), .int i7, .int i8, .int i9, .ref p10, .int (ftB (ftNok tx tn sp)), .ref p12, .ref p13, .ref p14, .int i15, .ref p16, .ref p17, .int i18, .ref p19, .ref p20, .ref p21, .ref p22, .int i23, .int i24, .ref p25, .ref p26, .ref p27, .ref p28, .ref p29, .ref p30, .ref p31, .ref p32])), (p3, .inl (cI, 120, .inl tx)), (p10, .inl (cI, 3, .inl (ftNf tx tn sp i fg)))] s.heap.size) ([.ref m0, .int (nI i)] : List Value).toArray s 0 0 A) (F0 m 85 ls []) := by
          intro n85
          induction n85 with
          | zero =>
            intro k x85_3 x85_4 g85_m0_6 hm85
            exact absurd hm85 (Nat.not_lt_zero _)
          | succ n85 ih85 =>
            intro k x85_3 x85_4 g85_m0_6 hm85 hk5 hall hqk ex85_3 ex85_4 eg85_m0_6 H locs hP hD hS ls hl
            subst ex85_4
            subst eg85_m0_6
            refine lv_iload hx hb dX11_readsNumber_85 (lv_at hl 4 rfl) ?_
            refine lv_iconst (v := 5) hx hb dX11_readsNumber_87 (by decide) ?_
            refine lv_icmp_ge (tgt := 158) hx hb dX11_readsNumber_88 (by decide) (fun c88 => ?_) (fun c88 => ?_)
            · have c88n : 5 ≤ k := ft_leN (by omega) (by omega) c88
              have hm : ftNd tx tn q9 = k := ftIni_of (by omega) hall (fun h => absurd h (by omega))
              refine lv_aload_n hx hb dX11_readsNumber_158 rfl (lv_at hl 0 rfl) ?_
              refine va_get (D := D) (ci := 11) (v := .ref p10) (C := RX11) (T := TX11) (N := 33) hx hb hts (by decide +kernel) hown hK hP 0 rfl rfl 10 (by decide) (hts (.fieldLink RX11 22 "FiberTraceModel" "figured" "[I") (by decide +kernel)) (fun _ h9 => h9) rfl dX11_readsNumber_159 ?_
              refine lv_iload_n hx hb dX11_readsNumber_162 rfl (lv_at hl 1 rfl) ?_
              refine lv_iload_n hx hb dX11_readsNumber_163 rfl (lv_at hl 2 rfl) ?_
              refine lv_iload_n hx hb dX11_readsNumber_164 rfl (lv_at hl 3 rfl) ?_
              refine lv_imul hx hb dX11_readsNumber_165 ?_
              refine va_iast hx hb hK hP hD hS 2 0 rfl rfl (vp_in_nI (by omega) (by omega)) dX11_readsNumber_166 (fun H locs hP hD hS => ?_)
              rw [nI_clamp (show i < 2 ^ 31 by omega)] at hP hD
              have hP : va_P D vwCl [(m0, .inr (11, [.ref p0, .ref p1, .int i2, .ref p3, .int (nI tn), .ref p5, .int (nI (q9 + k)), .int i7, .int i8, .int i9, .ref p10, .int 0, .ref p12, .ref p13, .ref p14, .int i15, .ref p16, .ref p17, .int i18, .ref p19, .ref p20, .ref p21, .ref p22, .int i23, .int i24, .ref p25, .ref p26, .ref p27, .ref p28, .ref p29, .ref p30, .ref p31, .ref p32])), (p3, .inl (cI, 120, .inl tx)), (p10, .inl (cI, 3, .inl (upd fg i (1 * x85_3))))] H := hP
              have hD : va_D A [(m0, .inr (11, [.ref p0, .ref p1, .int i2, .ref p3, .int (nI tn), .ref p5, .int (nI (q9 + k)), .int i7, .int i8, .int i9, .ref p10, .int 0, .ref p12, .ref p13, .ref p14, .int i15, .ref p16, .ref p17, .int i18, .ref p19, .ref p20, .ref p21, .ref p22, .int i23, .int i24, .ref p25, .ref p26, .ref p27, .ref p28, .ref p29, .ref p30, .ref p31, .ref p32])), (p3, .inl (cI, 120, .inl tx)), (p10, .inl (cI, 3, .inl (upd fg i (1 * x85_3))))] := hD
              refine lv_aload_n hx hb dX11_readsNumber_167 rfl (lv_at hl 0 rfl) ?_
              refine lv_iload hx hb dX11_readsNumber_168 (lv_at hl 4 rfl) ?_
              refine lv_if_le (tgt := 177) hx hb dX11_readsNumber_170 (by decide) (fun c170 => ?_) (fun c170 => ?_)
              · have c170n : k ≤ 0 := ft_leN (by omega) (by omega) c170
                have hok9 : ftB (ftNok tx tn sp) = 0 := ftB_f (fun q => by have q2 := q.2; rw [hqq, hm] at q2; omega)
                refine lv_iconst (v := 0) hx hb dX11_readsNumber_177 (by decide) ?_
                refine va_put (D := D) (ci := 11) (v := .int 0) (ty := .boolean) (C := RX11) (T := TX11) (N := 33) hx hb hts (by decide +kernel) tyX11 tyX11_ok nmX11 hown hK hP hD hS 0 rfl rfl 11 (by decide) (hts (.fieldLink RX11 114 "FiberTraceModel" "isFigured" "Z") (by decide +kernel)) (fun _ h9 => h9) rfl (by decide +kernel) (by first | rfl | exact ftB_nar) rfl (Nat.le_of_ble_eq_true rfl) dX11_readsNumber_178 (fun H locs hP hD hS => ?_)
                have hP : va_P D vwCl [(m0, .inr (11, [.ref p0, .ref p1, .int i2, .ref p3, .int (nI tn), .ref p5, .int (nI (q9 + k)), .int i7, .int i8, .int i9, .ref p10, .int 0, .ref p12, .ref p13, .ref p14, .int i15, .ref p16, .ref p17, .int i18, .ref p19, .ref p20, .ref p21, .ref p22, .int i23, .int i24, .ref p25, .ref p26, .ref p27, .ref p28, .ref p29, .ref p30, .ref p31, .ref p32])), (p3, .inl (cI, 120, .inl tx)), (p10, .inl (cI, 3, .inl (upd fg i (1 * x85_3))))] H := hP
                have hD : va_D A [(m0, .inr (11, [.ref p0, .ref p1, .int i2, .ref p3, .int (nI tn), .ref p5, .int (nI (q9 + k)), .int i7, .int i8, .int i9, .ref p10, .int 0, .ref p12, .ref p13, .ref p14, .int i15, .ref p16, .ref p17, .int i18, .ref p19, .ref p20, .ref p21, .ref p22, .int i23, .int i24, .ref p25, .ref p26, .ref p27, .ref p28, .ref p29, .ref p30, .ref p31, .ref p32])), (p3, .inl (cI, 120, .inl tx)), (p10, .inl (cI, 3, .inl (upd fg i (1 * x85_3))))] := hD
                have hw9 : ([(m0, .inr (11, [.ref p0, .ref p1, .int i2, .ref p3, .int (nI tn), .ref p5, .int (nI (q9 + k)), .int i7, .int i8, .int i9, .ref p10, .int 0, .ref p12, .ref p13, .ref p14, .int i15, .ref p16, .ref p17, .int i18, .ref p19, .ref p20, .ref p21, .ref p22, .int i23, .int i24, .ref p25, .ref p26, .ref p27, .ref p28, .ref p29, .ref p30, .ref p31, .ref p32])), (p3, .inl (cI, 120, .inl tx)), (p10, .inl (cI, 3, .inl (upd fg i (1 * x85_3))))] : va_W) = [(m0, .inr (11, [.ref p0, .ref p1, .int i2, .ref p3, .int (nI tn), .ref p5, .int (nI (ftNe tx tn sp)), .int i7, .int i8, .int i9, .ref p10, .int (ftB (ftNok tx tn sp)), .ref p12, .ref p13, .ref p14, .int i15, .ref p16, .ref p17, .int i18, .ref p19, .ref p20, .ref p21, .ref p22, .int i23, .int i24, .ref p25, .ref p26, .ref p27, .ref p28, .ref p29, .ref p30, .ref p31, .ref p32])), (p3, .inl (cI, 120, .inl tx)), (p10, .inl (cI, 3, .inl (ftNf tx tn sp i fg)))] := by rw [ftNe_t hsp, ftNf_t hsp, hok9, hqq, hm]; first | (rw [ftNv_t hng, hqq, hm, ex85_3]; done) | (rw [ftNv_f hng, hqq, hm, ex85_3]; done)
                rw [hw9] at hP hD
                exact W.vret hx hb hr (fun t ht hW => ⟨⟨(), rfl, trivial, by rw [ht]; exact hP, by rw [hAe]; exact hD⟩, by rw [hAe]; exact hS.F ht⟩) hS.2.2 dX11_readsNumber_181
              · have c170n : 0 < k := ft_nleN (by omega) (by omega) c170
                have hok9 : ftB (ftNok tx tn sp) = 1 := ftB_t ⟨hsp, by rw [hqq, hm]; omega⟩
                refine lv_iconst (v := 1) hx hb dX11_readsNumber_173 (by decide) ?_
                refine lv_goto (tgt := 178) hx hb dX11_readsNumber_174 (by decide) ?_
                refine va_put (D := D) (ci := 11) (v := .int 1) (ty := .boolean) (C := RX11) (T := TX11) (N := 33) hx hb hts (by decide +kernel) tyX11 tyX11_ok nmX11 hown hK hP hD hS 0 rfl rfl 11 (by decide) (hts (.fieldLink RX11 114 "FiberTraceModel" "isFigured" "Z") (by decide +kernel)) (fun _ h9 => h9) rfl (by decide +kernel) (by first | rfl | exact ftB_nar) rfl (Nat.le_of_ble_eq_true rfl) dX11_readsNumber_178 (fun H locs hP hD hS => ?_)
                have hP : va_P D vwCl [(m0, .inr (11, [.ref p0, .ref p1, .int i2, .ref p3, .int (nI tn), .ref p5, .int (nI (q9 + k)), .int i7, .int i8, .int i9, .ref p10, .int 1, .ref p12, .ref p13, .ref p14, .int i15, .ref p16, .ref p17, .int i18, .ref p19, .ref p20, .ref p21, .ref p22, .int i23, .int i24, .ref p25, .ref p26, .ref p27, .ref p28, .ref p29, .ref p30, .ref p31, .ref p32])), (p3, .inl (cI, 120, .inl tx)), (p10, .inl (cI, 3, .inl (upd fg i (1 * x85_3))))] H := hP
                have hD : va_D A [(m0, .inr (11, [.ref p0, .ref p1, .int i2, .ref p3, .int (nI tn), .ref p5, .int (nI (q9 + k)), .int i7, .int i8, .int i9, .ref p10, .int 1, .ref p12, .ref p13, .ref p14, .int i15, .ref p16, .ref p17, .int i18, .ref p19, .ref p20, .ref p21, .ref p22, .int i23, .int i24, .ref p25, .ref p26, .ref p27, .ref p28, .ref p29, .ref p30, .ref p31, .ref p32])), (p3, .inl (cI, 120, .inl tx)), (p10, .inl (cI, 3, .inl (upd fg i (1 * x85_3))))] := hD
                have hw9 : ([(m0, .inr (11, [.ref p0, .ref p1, .int i2, .ref p3, .int (nI tn), .ref p5, .int (nI (q9 + k)), .int i7, .int i8, .int i9, .ref p10, .int 1, .ref p12, .ref p13, .ref p14, .int i15, .ref p16, .ref p17, .int i18, .ref p19, .ref p20, .ref p21, .ref p22, .int i23, .int i24, .ref p25, .ref p26, .ref p27, .ref p28, .ref p29, .ref p30, .ref p31, .ref p32])), (p3, .inl (cI, 120, .inl tx)), (p10, .inl (cI, 3, .inl (upd fg i (1 * x85_3))))] : va_W) = [(m0, .inr (11, [.ref p0, .ref p1, .int i2, .ref p3, .int (nI tn), .ref p5, .int (nI (ftNe tx tn sp)), .int i7, .int i8, .int i9, .ref p10, .int (ftB (ftNok tx tn sp)), .ref p12, .ref p13, .ref p14, .int i15, .ref p16, .ref p17, .int i18, .ref p19, .ref p20, .ref p21, .ref p22, .int i23, .int i24, .ref p25, .ref p26, .ref p27, .ref p28, .ref p29, .ref p30, .ref p31, .ref p32])), (p3, .inl (cI, 120, .inl tx)), (p10, .inl (cI, 3, .inl (ftNf tx tn sp i fg)))] := by rw [ftNe_t hsp, ftNf_t hsp, hok9, hqq, hm]; first | (rw [ftNv_t hng, hqq, hm, ex85_3]; done) | (rw [ftNv_f hng, hqq, hm, ex85_3]; done)
                rw [hw9] at hP hD
                exact W.vret hx hb hr (fun t ht hW => ⟨⟨(), rfl, trivial, by rw [ht]; exact hP, by rw [hAe]; exact hD⟩, by rw [hAe]; exact hS.F ht⟩) hS.2.2 dX11_readsNumber_181
            · have c88n : k < 5 := ft_nleN (by omega) (by omega) c88
              refine lv_aload_n hx hb dX11_readsNumber_91 rfl (lv_at hl 0 rfl) ?_
              refine va_get (D := D) (ci := 11) (v := .int (nI (q9 + k))) (C := RX11) (T := TX11) (N := 33) hx hb hts (by decide +kernel) hown hK hP 0 rfl rfl 6 (by decide) (hts (.fieldLink RX11 100 "FiberTraceModel" "spot" "I") (by decide +kernel)) (fun _ h9 => h9) rfl dX11_readsNumber_92 ?_
              refine lv_aload_n hx hb dX11_readsNumber_95 rfl (lv_at hl 0 rfl) ?_
              refine va_get (D := D) (ci := 11) (v := .int (nI tn)) (C := RX11) (T := TX11) (N := 33) hx hb hts (by decide +kernel) hown hK hP 0 rfl rfl 4 (by decide) (hts (.fieldLink RX11 96 "FiberTraceModel" "length" "I") (by decide +kernel)) (fun _ h9 => h9) rfl dX11_readsNumber_96 ?_
              refine lv_icmp_ge (tgt := 158) hx hb dX11_readsNumber_99 (by decide) (fun c99 => ?_) (fun c99 => ?_)
              · have c99n : tn ≤ (q9 + k) := ft_leN (by omega) (by omega) c99
                have hm : ftNd tx tn q9 = k := ftIni_of (by omega) hall (fun _ q => absurd q.1 (by omega))
                refine lv_aload_n hx hb dX11_readsNumber_158 rfl (lv_at hl 0 rfl) ?_
                refine va_get (D := D) (ci := 11) (v := .ref p10) (C := RX11) (T := TX11) (N := 33) hx hb hts (by decide +kernel) hown hK hP 0 rfl rfl 10 (by decide) (hts (.fieldLink RX11 22 "FiberTraceModel" "figured" "[I") (by decide +kernel)) (fun _ h9 => h9) rfl dX11_readsNumber_159 ?_
                refine lv_iload_n hx hb dX11_readsNumber_162 rfl (lv_at hl 1 rfl) ?_
                refine lv_iload_n hx hb dX11_readsNumber_163 rfl (lv_at hl 2 rfl) ?_
                refine lv_iload_n hx hb dX11_readsNumber_164 rfl (lv_at hl 3 rfl) ?_
                refine lv_imul hx hb dX11_readsNumber_165 ?_
                refine va_iast hx hb hK hP hD hS 2 0 rfl rfl (vp_in_nI (by omega) (by omega)) dX11_readsNumber_166 (fun H locs hP hD hS => ?_)
                rw [nI_clamp (show i < 2 ^ 31 by omega)] at hP hD
                have hP : va_P D vwCl [(m0, .inr (11, [.ref p0, .ref p1, .int i2, .ref p3, .int (nI tn), .ref p5, .int (nI (q9 + k)), .int i7, .int i8, .int i9, .ref p10, .int 0, .ref p12, .ref p13, .ref p14, .int i15, .ref p16, .ref p17, .int i18, .ref p19, .ref p20, .ref p21, .ref p22, .int i23, .int i24, .ref p25, .ref p26, .ref p27, .ref p28, .ref p29, .ref p30, .ref p31, .ref p32])), (p3, .inl (cI, 120, .inl tx)), (p10, .inl (cI, 3, .inl (upd fg i (1 * x85_3))))] H := hP
                have hD : va_D A [(m0, .inr (11, [.ref p0, .ref p1, .int i2, .ref p3, .int (nI tn), .ref p5, .int (nI (q9 + k)), .int i7, .int i8, .int i9, .ref p10, .int 0, .ref p12, .ref p13, .ref p14, .int i15, .ref p16, .ref p17, .int i18, .ref p19, .ref p20, .ref p21, .ref p22, .int i23, .int i24, .ref p25, .ref p26, .ref p27, .ref p28, .ref p29, .ref p30, .ref p31, .ref p32])), (p3, .inl (cI, 120, .inl tx)), (p10, .inl (cI, 3, .inl (upd fg i (1 * x85_3))))] := hD
                refine lv_aload_n hx hb dX11_readsNumber_167 rfl (lv_at hl 0 rfl) ?_
                refine lv_iload hx hb dX11_readsNumber_168 (lv_at hl 4 rfl) ?_
                refine lv_if_le (tgt := 177) hx hb dX11_readsNumber_170 (by decide) (fun c170 => ?_) (fun c170 => ?_)
                · have c170n : k ≤ 0 := ft_leN (by omega) (by omega) c170
                  have hok9 : ftB (ftNok tx tn sp) = 0 := ftB_f (fun q => by have q2 := q.2; rw [hqq, hm] at q2; omega)
                  refine lv_iconst (v := 0) hx hb dX11_readsNumber_177 (by decide) ?_
                  refine va_put (D := D) (ci := 11) (v := .int 0) (ty := .boolean) (C := RX11) (T := TX11) (N := 33) hx hb hts (by decide +kernel) tyX11 tyX11_ok nmX11 hown hK hP hD hS 0 rfl rfl 11 (by decide) (hts (.fieldLink RX11 114 "FiberTraceModel" "isFigured" "Z") (by decide +kernel)) (fun _ h9 => h9) rfl (by decide +kernel) (by first | rfl | exact ftB_nar) rfl (Nat.le_of_ble_eq_true rfl) dX11_readsNumber_178 (fun H locs hP hD hS => ?_)
                  have hP : va_P D vwCl [(m0, .inr (11, [.ref p0, .ref p1, .int i2, .ref p3, .int (nI tn), .ref p5, .int (nI (q9 + k)), .int i7, .int i8, .int i9, .ref p10, .int 0, .ref p12, .ref p13, .ref p14, .int i15, .ref p16, .ref p17, .int i18, .ref p19, .ref p20, .ref p21, .ref p22, .int i23, .int i24, .ref p25, .ref p26, .ref p27, .ref p28, .ref p29, .ref p30, .ref p31, .ref p32])), (p3, .inl (cI, 120, .inl tx)), (p10, .inl (cI, 3, .inl (upd fg i (1 * x85_3))))] H := hP
                  have hD : va_D A [(m0, .inr (11, [.ref p0, .ref p1, .int i2, .ref p3, .int (nI tn), .ref p5, .int (nI (q9 + k)), .int i7, .int i8, .int i9, .ref p10, .int 0, .ref p12, .ref p13, .ref p14, .int i15, .ref p16, .ref p17, .int i18, .ref p19, .ref p20, .ref p21, .ref p22, .int i23, .int i24, .ref p25, .ref p26, .ref p27, .ref p28, .ref p29, .ref p30, .ref p31, .ref p32])), (p3, .inl (cI, 120, .inl tx)), (p10, .inl (cI, 3, .inl (upd fg i (1 * x85_3))))] := hD
                  have hw9 : ([(m0, .inr (11, [.ref p0, .ref p1, .int i2, .ref p3, .int (nI tn), .ref p5, .int (nI (q9 + k)), .int i7, .int i8, .int i9, .ref p10, .int 0, .ref p12, .ref p13, .ref p14, .int i15, .ref p16, .ref p17, .int i18, .ref p19, .ref p20, .ref p21, .ref p22, .int i23, .int i24, .ref p25, .ref p26, .ref p27, .ref p28, .ref p29, .ref p30, .ref p31, .ref p32])), (p3, .inl (cI, 120, .inl tx)), (p10, .inl (cI, 3, .inl (upd fg i (1 * x85_3))))] : va_W) = [(m0, .inr (11, [.ref p0, .ref p1, .int i2, .ref p3, .int (nI tn), .ref p5, .int (nI (ftNe tx tn sp)), .int i7, .int i8, .int i9, .ref p10, .int (ftB (ftNok tx tn sp)), .ref p12, .ref p13, .ref p14, .int i15, .ref p16, .ref p17, .int i18, .ref p19, .ref p20, .ref p21, .ref p22, .int i23, .int i24, .ref p25, .ref p26, .ref p27, .ref p28, .ref p29, .ref p30, .ref p31, .ref p32])), (p3, .inl (cI, 120, .inl tx)), (p10, .inl (cI, 3, .inl (ftNf tx tn sp i fg)))] := by rw [ftNe_t hsp, ftNf_t hsp, hok9, hqq, hm]; first | (rw [ftNv_t hng, hqq, hm, ex85_3]; done) | (rw [ftNv_f hng, hqq, hm, ex85_3]; done)
                  rw [hw9] at hP hD
                  exact W.vret hx hb hr (fun t ht hW => ⟨⟨(), rfl, trivial, by rw [ht]; exact hP, by rw [hAe]; exact hD⟩, by rw [hAe]; exact hS.F ht⟩) hS.2.2 dX11_readsNumber_181
                · have c170n : 0 < k := ft_nleN (by omega) (by omega) c170
                  have hok9 : ftB (ftNok tx tn sp) = 1 := ftB_t ⟨hsp, by rw [hqq, hm]; omega⟩
                  refine lv_iconst (v := 1) hx hb dX11_readsNumber_173 (by decide) ?_
                  refine lv_goto (tgt := 178) hx hb dX11_readsNumber_174 (by decide) ?_
                  refine va_put (D := D) (ci := 11) (v := .int 1) (ty := .boolean) (C := RX11) (T := TX11) (N := 33) hx hb hts (by decide +kernel) tyX11 tyX11_ok nmX11 hown hK hP hD hS 0 rfl rfl 11 (by decide) (hts (.fieldLink RX11 114 "FiberTraceModel" "isFigured" "Z") (by decide +kernel)) (fun _ h9 => h9) rfl (by decide +kernel) (by first | rfl | exact ftB_nar) rfl (Nat.le_of_ble_eq_true rfl) dX11_readsNumber_178 (fun H locs hP hD hS => ?_)
                  have hP : va_P D vwCl [(m0, .inr (11, [.ref p0, .ref p1, .int i2, .ref p3, .int (nI tn), .ref p5, .int (nI (q9 + k)), .int i7, .int i8, .int i9, .ref p10, .int 1, .ref p12, .ref p13, .ref p14, .int i15, .ref p16, .ref p17, .int i18, .ref p19, .ref p20, .ref p21, .ref p22, .int i23, .int i24, .ref p25, .ref p26, .ref p27, .ref p28, .ref p29, .ref p30, .ref p31, .ref p32])), (p3, .inl (cI, 120, .inl tx)), (p10, .inl (cI, 3, .inl (upd fg i (1 * x85_3))))] H := hP
                  have hD : va_D A [(m0, .inr (11, [.ref p0, .ref p1, .int i2, .ref p3, .int (nI tn), .ref p5, .int (nI (q9 + k)), .int i7, .int i8, .int i9, .ref p10, .int 1, .ref p12, .ref p13, .ref p14, .int i15, .ref p16, .ref p17, .int i18, .ref p19, .ref p20, .ref p21, .ref p22, .int i23, .int i24, .ref p25, .ref p26, .ref p27, .ref p28, .ref p29, .ref p30, .ref p31, .ref p32])), (p3, .inl (cI, 120, .inl tx)), (p10, .inl (cI, 3, .inl (upd fg i (1 * x85_3))))] := hD
                  have hw9 : ([(m0, .inr (11, [.ref p0, .ref p1, .int i2, .ref p3, .int (nI tn), .ref p5, .int (nI (q9 + k)), .int i7, .int i8, .int i9, .ref p10, .int 1, .ref p12, .ref p13, .ref p14, .int i15, .ref p16, .ref p17, .int i18, .ref p19, .ref p20, .ref p21, .ref p22, .int i23, .int i24, .ref p25, .ref p26, .ref p27, .ref p28, .ref p29, .ref p30, .ref p31, .ref p32])), (p3, .inl (cI, 120, .inl tx)), (p10, .inl (cI, 3, .inl (upd fg i (1 * x85_3))))] : va_W) = [(m0, .inr (11, [.ref p0, .ref p1, .int i2, .ref p3, .int (nI tn), .ref p5, .int (nI (ftNe tx tn sp)), .int i7, .int i8, .int i9, .ref p10, .int (ftB (ftNok tx tn sp)), .ref p12, .ref p13, .ref p14, .int i15, .ref p16, .ref p17, .int i18, .ref p19, .ref p20, .ref p21, .ref p22, .int i23, .int i24, .ref p25, .ref p26, .ref p27, .ref p28, .ref p29, .ref p30, .ref p31, .ref p32])), (p3, .inl (cI, 120, .inl tx)), (p10, .inl (cI, 3, .inl (ftNf tx tn sp i fg)))] := by rw [ftNe_t hsp, ftNf_t hsp, hok9, hqq, hm]; first | (rw [ftNv_t hng, hqq, hm, ex85_3]; done) | (rw [ftNv_f hng, hqq, hm, ex85_3]; done)
                  rw [hw9] at hP hD
                  exact W.vret hx hb hr (fun t ht hW => ⟨⟨(), rfl, trivial, by rw [ht]; exact hP, by rw [hAe]; exact hD⟩, by rw [hAe]; exact hS.F ht⟩) hS.2.2 dX11_readsNumber_181
              · have c99n : (q9 + k) < tn := ft_nleN (by omega) (by omega) c99
                refine lv_aload_n hx hb dX11_readsNumber_102 rfl (lv_at hl 0 rfl) ?_
                refine va_get (D := D) (ci := 11) (v := .ref p3) (C := RX11) (T := TX11) (N := 33) hx hb hts (by decide +kernel) hown hK hP 0 rfl rfl 3 (by decide) (hts (.fieldLink RX11 16 "FiberTraceModel" "text" "[I") (by decide +kernel)) (fun _ h9 => h9) rfl dX11_readsNumber_103 ?_
                refine lv_aload_n hx hb dX11_readsNumber_106 rfl (lv_at hl 0 rfl) ?_
                refine va_get (D := D) (ci := 11) (v := .int (nI (q9 + k))) (C := RX11) (T := TX11) (N := 33) hx hb hts (by decide +kernel) hown hK hP 0 rfl rfl 6 (by decide) (hts (.fieldLink RX11 100 "FiberTraceModel" "spot" "I") (by decide +kernel)) (fun _ h9 => h9) rfl dX11_readsNumber_107 ?_
                refine va_iald hx hb hK hP 1 0 rfl rfl (vp_in_nI (by omega) (by omega)) dX11_readsNumber_110 ?_
                refine ft_top (y := tx (q9 + k)) (ft_clampN (by omega)) ?_
                refine lv_i2l (v := (tx (q9 + k)).toInt64) hx hb dX11_readsNumber_111 rfl ?_
                refine lv_ldc2 (v := 48) hx hb hown (hts (.constantLong RX11 118 48) (by decide +kernel)) dX11_readsNumber_112 ?_
                refine lv_ldc2 (v := 57) hx hb hown (hts (.constantLong RX11 120 57) (by decide +kernel)) dX11_readsNumber_115 ?_
                refine ft_csi (r := ftB (48 ≤ ((tx (q9 + k)).toInt64) ∧ ((tx (q9 + k)).toInt64) ≤ 57)) (va_runS (As := [.long ((tx (q9 + k)).toInt64), .long 48, .long 57]) (rest := []) ⟨hx, hb, hml, hown, hts⟩ (c_X11_in l D cI cS ((tx (q9 + k)).toInt64) 48 57) (va_cwS 3 hts gX11_readsNumber_X11_in rfl rfl rfl (by decide +kernel) ⟨Nat.le_of_ble_eq_true rfl, Nat.le_of_ble_eq_true rfl⟩) (ft_preRO hP hKK [] rfl) rfl rfl hl.1 rfl (lv_room (Nat.le_of_ble_eq_true rfl)) dX11_readsNumber_118 ⟨Nat.le_of_ble_eq_true rfl, Nat.le_of_ble_eq_true rfl⟩) ?_
                refine ft_top (y := ftB (48 ≤ (tx (q9 + k)) ∧ (tx (q9 + k)) ≤ 57)) (ft_in64 (by decide) (by decide)) ?_
                refine lv_if_eq (tgt := 158) hx hb dX11_readsNumber_121 (by decide) (fun c121 => ?_) (fun c121 => ?_)
                · replace c121 := ftB_eq c121
                  have hm : ftNd tx tn q9 = k := ftIni_of (by omega) hall (fun _ q => c121 q.2)
                  refine lv_aload_n hx hb dX11_readsNumber_158 rfl (lv_at hl 0 rfl) ?_
                  refine va_get (D := D) (ci := 11) (v := .ref p10) (C := RX11) (T := TX11) (N := 33) hx hb hts (by decide +kernel) hown hK hP 0 rfl rfl 10 (by decide) (hts (.fieldLink RX11 22 "FiberTraceModel" "figured" "[I") (by decide +kernel)) (fun _ h9 => h9) rfl dX11_readsNumber_159 ?_
                  refine lv_iload_n hx hb dX11_readsNumber_162 rfl (lv_at hl 1 rfl) ?_
                  refine lv_iload_n hx hb dX11_readsNumber_163 rfl (lv_at hl 2 rfl) ?_
                  refine lv_iload_n hx hb dX11_readsNumber_164 rfl (lv_at hl 3 rfl) ?_
                  refine lv_imul hx hb dX11_readsNumber_165 ?_
                  refine va_iast hx hb hK hP hD hS 2 0 rfl rfl (vp_in_nI (by omega) (by omega)) dX11_readsNumber_166 (fun H locs hP hD hS => ?_)
                  rw [nI_clamp (show i < 2 ^ 31 by omega)] at hP hD
                  have hP : va_P D vwCl [(m0, .inr (11, [.ref p0, .ref p1, .int i2, .ref p3, .int (nI tn), .ref p5, .int (nI (q9 + k)), .int i7, .int i8, .int i9, .ref p10, .int 0, .ref p12, .ref p13, .ref p14, .int i15, .ref p16, .ref p17, .int i18, .ref p19, .ref p20, .ref p21, .ref p22, .int i23, .int i24, .ref p25, .ref p26, .ref p27, .ref p28, .ref p29, .ref p30, .ref p31, .ref p32])), (p3, .inl (cI, 120, .inl tx)), (p10, .inl (cI, 3, .inl (upd fg i (1 * x85_3))))] H := hP
                  have hD : va_D A [(m0, .inr (11, [.ref p0, .ref p1, .int i2, .ref p3, .int (nI tn), .ref p5, .int (nI (q9 + k)), .int i7, .int i8, .int i9, .ref p10, .int 0, .ref p12, .ref p13, .ref p14, .int i15, .ref p16, .ref p17, .int i18, .ref p19, .ref p20, .ref p21, .ref p22, .int i23, .int i24, .ref p25, .ref p26, .ref p27, .ref p28, .ref p29, .ref p30, .ref p31, .ref p32])), (p3, .inl (cI, 120, .inl tx)), (p10, .inl (cI, 3, .inl (upd fg i (1 * x85_3))))] := hD
                  refine lv_aload_n hx hb dX11_readsNumber_167 rfl (lv_at hl 0 rfl) ?_
                  refine lv_iload hx hb dX11_readsNumber_168 (lv_at hl 4 rfl) ?_
                  refine lv_if_le (tgt := 177) hx hb dX11_readsNumber_170 (by decide) (fun c170 => ?_) (fun c170 => ?_)
                  · have c170n : k ≤ 0 := ft_leN (by omega) (by omega) c170
                    have hok9 : ftB (ftNok tx tn sp) = 0 := ftB_f (fun q => by have q2 := q.2; rw [hqq, hm] at q2; omega)
                    refine lv_iconst (v := 0) hx hb dX11_readsNumber_177 (by decide) ?_
                    refine va_put (D := D) (ci := 11) (v := .int 0) (ty := .boolean) (C := RX11) (T := TX11) (N := 33) hx hb hts (by decide +kernel) tyX11 tyX11_ok nmX11 hown hK hP hD hS 0 rfl rfl 11 (by decide) (hts (.fieldLink RX11 114 "FiberTraceModel" "isFigured" "Z") (by decide +kernel)) (fun _ h9 => h9) rfl (by decide +kernel) (by first | rfl | exact ftB_nar) rfl (Nat.le_of_ble_eq_true rfl) dX11_readsNumber_178 (fun H locs hP hD hS => ?_)
                    have hP : va_P D vwCl [(m0, .inr (11, [.ref p0, .ref p1, .int i2, .ref p3, .int (nI tn), .ref p5, .int (nI (q9 + k)), .int i7, .int i8, .int i9, .ref p10, .int 0, .ref p12, .ref p13, .ref p14, .int i15, .ref p16, .ref p17, .int i18, .ref p19, .ref p20, .ref p21, .ref p22, .int i23, .int i24, .ref p25, .ref p26, .ref p27, .ref p28, .ref p29, .ref p30, .ref p31, .ref p32])), (p3, .inl (cI, 120, .inl tx)), (p10, .inl (cI, 3, .inl (upd fg i (1 * x85_3))))] H := hP
                    have hD : va_D A [(m0, .inr (11, [.ref p0, .ref p1, .int i2, .ref p3, .int (nI tn), .ref p5, .int (nI (q9 + k)), .int i7, .int i8, .int i9, .ref p10, .int 0, .ref p12, .ref p13, .ref p14, .int i15, .ref p16, .ref p17, .int i18, .ref p19, .ref p20, .ref p21, .ref p22, .int i23, .int i24, .ref p25, .ref p26, .ref p27, .ref p28, .ref p29, .ref p30, .ref p31, .ref p32])), (p3, .inl (cI, 120, .inl tx)), (p10, .inl (cI, 3, .inl (upd fg i (1 * x85_3))))] := hD
                    have hw9 : ([(m0, .inr (11, [.ref p0, .ref p1, .int i2, .ref p3, .int (nI tn), .ref p5, .int (nI (q9 + k)), .int i7, .int i8, .int i9, .ref p10, .int 0, .ref p12, .ref p13, .ref p14, .int i15, .ref p16, .ref p17, .int i18, .ref p19, .ref p20, .ref p21, .ref p22, .int i23, .int i24, .ref p25, .ref p26, .ref p27, .ref p28, .ref p29, .ref p30, .ref p31, .ref p32])), (p3, .inl (cI, 120, .inl tx)), (p10, .inl (cI, 3, .inl (upd fg i (1 * x85_3))))] : va_W) = [(m0, .inr (11, [.ref p0, .ref p1, .int i2, .ref p3, .int (nI tn), .ref p5, .int (nI (ftNe tx tn sp)), .int i7, .int i8, .int i9, .ref p10, .int (ftB (ftNok tx tn sp)), .ref p12, .ref p13, .ref p14, .int i15, .ref p16, .ref p17, .int i18, .ref p19, .ref p20, .ref p21, .ref p22, .int i23, .int i24, .ref p25, .ref p26, .ref p27, .ref p28, .ref p29, .ref p30, .ref p31, .ref p32])), (p3, .inl (cI, 120, .inl tx)), (p10, .inl (cI, 3, .inl (ftNf tx tn sp i fg)))] := by rw [ftNe_t hsp, ftNf_t hsp, hok9, hqq, hm]; first | (rw [ftNv_t hng, hqq, hm, ex85_3]; done) | (rw [ftNv_f hng, hqq, hm, ex85_3]; done)
                    rw [hw9] at hP hD
                    exact W.vret hx hb hr (fun t ht hW => ⟨⟨(), rfl, trivial, by rw [ht]; exact hP, by rw [hAe]; exact hD⟩, by rw [hAe]; exact hS.F ht⟩) hS.2.2 dX11_readsNumber_181
                  · have c170n : 0 < k := ft_nleN (by omega) (by omega) c170
                    have hok9 : ftB (ftNok tx tn sp) = 1 := ftB_t ⟨hsp, by rw [hqq, hm]; omega⟩
                    refine lv_iconst (v := 1) hx hb dX11_readsNumber_173 (by decide) ?_
                    refine lv_goto (tgt := 178) hx hb dX11_readsNumber_174 (by decide) ?_
                    refine va_put (D := D) (ci := 11) (v := .int 1) (ty := .boolean) (C := RX11) (T := TX11) (N := 33) hx hb hts (by decide +kernel) tyX11 tyX11_ok nmX11 hown hK hP hD hS 0 rfl rfl 11 (by decide) (hts (.fieldLink RX11 114 "FiberTraceModel" "isFigured" "Z") (by decide +kernel)) (fun _ h9 => h9) rfl (by decide +kernel) (by first | rfl | exact ftB_nar) rfl (Nat.le_of_ble_eq_true rfl) dX11_readsNumber_178 (fun H locs hP hD hS => ?_)
                    have hP : va_P D vwCl [(m0, .inr (11, [.ref p0, .ref p1, .int i2, .ref p3, .int (nI tn), .ref p5, .int (nI (q9 + k)), .int i7, .int i8, .int i9, .ref p10, .int 1, .ref p12, .ref p13, .ref p14, .int i15, .ref p16, .ref p17, .int i18, .ref p19, .ref p20, .ref p21, .ref p22, .int i23, .int i24, .ref p25, .ref p26, .ref p27, .ref p28, .ref p29, .ref p30, .ref p31, .ref p32])), (p3, .inl (cI, 120, .inl tx)), (p10, .inl (cI, 3, .inl (upd fg i (1 * x85_3))))] H := hP
                    have hD : va_D A [(m0, .inr (11, [.ref p0, .ref p1, .int i2, .ref p3, .int (nI tn), .ref p5, .int (nI (q9 + k)), .int i7, .int i8, .int i9, .ref p10, .int 1, .ref p12, .ref p13, .ref p14, .int i15, .ref p16, .ref p17, .int i18, .ref p19, .ref p20, .ref p21, .ref p22, .int i23, .int i24, .ref p25, .ref p26, .ref p27, .ref p28, .ref p29, .ref p30, .ref p31, .ref p32])), (p3, .inl (cI, 120, .inl tx)), (p10, .inl (cI, 3, .inl (upd fg i (1 * x85_3))))] := hD
                    have hw9 : ([(m0, .inr (11, [.ref p0, .ref p1, .int i2, .ref p3, .int (nI tn), .ref p5, .int (nI (q9 + k)), .int i7, .int i8, .int i9, .ref p10, .int 1, .ref p12, .ref p13, .ref p14, .int i15, .ref p16, .ref p17, .int i18, .ref p19, .ref p20, .ref p21, .ref p22, .int i23, .int i24, .ref p25, .ref p26, .ref p27, .ref p28, .ref p29, .ref p30, .ref p31, .ref p32])), (p3, .inl (cI, 120, .inl tx)), (p10, .inl (cI, 3, .inl (upd fg i (1 * x85_3))))] : va_W) = [(m0, .inr (11, [.ref p0, .ref p1, .int i2, .ref p3, .int (nI tn), .ref p5, .int (nI (ftNe tx tn sp)), .int i7, .int i8, .int i9, .ref p10, .int (ftB (ftNok tx tn sp)), .ref p12, .ref p13, .ref p14, .int i15, .ref p16, .ref p17, .int i18, .ref p19, .ref p20, .ref p21, .ref p22, .int i23, .int i24, .ref p25, .ref p26, .ref p27, .ref p28, .ref p29, .ref p30, .ref p31, .ref p32])), (p3, .inl (cI, 120, .inl tx)), (p10, .inl (cI, 3, .inl (ftNf tx tn sp i fg)))] := by rw [ftNe_t hsp, ftNf_t hsp, hok9, hqq, hm]; first | (rw [ftNv_t hng, hqq, hm, ex85_3]; done) | (rw [ftNv_f hng, hqq, hm, ex85_3]; done)
                    rw [hw9] at hP hD
                    exact W.vret hx hb hr (fun t ht hW => ⟨⟨(), rfl, trivial, by rw [ht]; exact hP, by rw [hAe]; exact hD⟩, by rw [hAe]; exact hS.F ht⟩) hS.2.2 dX11_readsNumber_181
                · replace c121 := ftB_ne c121
                  have hlo := c121
                  refine lv_bipush (v := 10) hx hb dX11_readsNumber_124 (by decide) ?_
                  refine lv_iload_n hx hb dX11_readsNumber_126 rfl (lv_at hl 3 rfl) ?_
                  refine lv_imul hx hb dX11_readsNumber_127 ?_
                  refine lv_aload_n hx hb dX11_readsNumber_128 rfl (lv_at hl 0 rfl) ?_
                  refine va_get (D := D) (ci := 11) (v := .ref p3) (C := RX11) (T := TX11) (N := 33) hx hb hts (by decide +kernel) hown hK hP 0 rfl rfl 3 (by decide) (hts (.fieldLink RX11 16 "FiberTraceModel" "text" "[I") (by decide +kernel)) (fun _ h9 => h9) rfl dX11_readsNumber_129 ?_
                  refine lv_aload_n hx hb dX11_readsNumber_132 rfl (lv_at hl 0 rfl) ?_
                  refine va_get (D := D) (ci := 11) (v := .int (nI (q9 + k))) (C := RX11) (T := TX11) (N := 33) hx hb hts (by decide +kernel) hown hK hP 0 rfl rfl 6 (by decide) (hts (.fieldLink RX11 100 "FiberTraceModel" "spot" "I") (by decide +kernel)) (fun _ h9 => h9) rfl dX11_readsNumber_133 ?_
                  refine va_iald hx hb hK hP 1 0 rfl rfl (vp_in_nI (by omega) (by omega)) dX11_readsNumber_136 ?_
                  refine ft_top (y := tx (q9 + k)) (ft_clampN (by omega)) ?_
                  refine lv_iadd hx hb dX11_readsNumber_137 ?_
                  refine lv_bipush (v := 48) hx hb dX11_readsNumber_138 (by decide) ?_
                  refine lv_isub hx hb dX11_readsNumber_140 ?_
                  refine lv_istore_n (lv' := [(3, .int (((10 * x85_3) + (tx (q9 + k))) - 48)), (0, .ref m0), (1, .int (nI i)), (2, .int 1), (4, .int (nI k))]) hx hb dX11_readsNumber_141 rfl hl (by decide) rfl (fun ls hl => ?_)
                  refine lv_aload_n hx hb dX11_readsNumber_142 rfl (lv_at hl 1 rfl) ?_
                  refine lv_dup hx hb dX11_readsNumber_143 rfl ?_
                  refine va_get (D := D) (ci := 11) (v := .int (nI (q9 + k))) (C := RX11) (T := TX11) (N := 33) hx hb hts (by decide +kernel) hown hK hP 0 rfl rfl 6 (by decide) (hts (.fieldLink RX11 100 "FiberTraceModel" "spot" "I") (by decide +kernel)) (fun _ h9 => h9) rfl dX11_readsNumber_144 ?_
                  refine lv_iconst (v := 1) hx hb dX11_readsNumber_147 (by decide) ?_
                  refine lv_iadd hx hb dX11_readsNumber_148 ?_
                  refine ft_top (y := nI ((q9 + k) + 1)) (ft_addN (q9 + k) 1) ?_
                  refine va_put (D := D) (ci := 11) (v := .int (nI ((q9 + k) + 1))) (ty := .int) (C := RX11) (T := TX11) (N := 33) hx hb hts (by decide +kernel) tyX11 tyX11_ok nmX11 hown hK hP hD hS 0 rfl rfl 6 (by decide) (hts (.fieldLink RX11 100 "FiberTraceModel" "spot" "I") (by decide +kernel)) (fun _ h9 => h9) rfl (by decide +kernel) rfl rfl (Nat.le_of_ble_eq_true rfl) dX11_readsNumber_149 (fun H locs hP hD hS => ?_)
                  have hP : va_P D vwCl [(m0, .inr (11, [.ref p0, .ref p1, .int i2, .ref p3, .int (nI tn), .ref p5, .int (nI ((q9 + k) + 1)), .int i7, .int i8, .int i9, .ref p10, .int 0, .ref p12, .ref p13, .ref p14, .int i15, .ref p16, .ref p17, .int i18, .ref p19, .ref p20, .ref p21, .ref p22, .int i23, .int i24, .ref p25, .ref p26, .ref p27, .ref p28, .ref p29, .ref p30, .ref p31, .ref p32])), (p3, .inl (cI, 120, .inl tx)), (p10, .inl (cI, 3, .inl fg))] H := hP
                  have hD : va_D A [(m0, .inr (11, [.ref p0, .ref p1, .int i2, .ref p3, .int (nI tn), .ref p5, .int (nI ((q9 + k) + 1)), .int i7, .int i8, .int i9, .ref p10, .int 0, .ref p12, .ref p13, .ref p14, .int i15, .ref p16, .ref p17, .int i18, .ref p19, .ref p20, .ref p21, .ref p22, .int i23, .int i24, .ref p25, .ref p26, .ref p27, .ref p28, .ref p29, .ref p30, .ref p31, .ref p32])), (p3, .inl (cI, 120, .inl tx)), (p10, .inl (cI, 3, .inl fg))] := hD
                  refine lv_iinc (v := nI (k + 1)) (lv' := [(4, .int (nI (k + 1))), (3, .int (((10 * x85_3) + (tx (q9 + k))) - 48)), (0, .ref m0), (1, .int (nI i)), (2, .int 1)]) hx hb dX11_readsNumber_152 hl (k := 4) rfl (ft_inc k) (by decide) rfl (fun ls hl => ?_)
                  refine lv_goto (tgt := 85) hx hb dX11_readsNumber_155 (by decide) ?_
                  exact ih85 (k + 1) (((10 * x85_3) + (tx (q9 + k))) - 48) (nI (k + 1)) (nI ((q9 + k) + 1)) (by omega) (by omega) (by intro t ht; rcases Nat.lt_succ_iff_lt_or_eq.mp ht with q | q; exact hall t q; subst q; exact ⟨c99n, hlo⟩) (by omega) (by rw [ex85_3]; rfl) (by first | rfl | assumption) (by rfl) _ _ hP hD hS ls (lv_sub hl [2, 3, 4, 1, 0] rfl)
        exact lp85 _ 0 0 0 (nI (sp + 1)) (Nat.lt_succ_self _) (by omega) (by intro t ht; exact absurd ht (Nat.not_lt_zero t)) (by omega) (by rfl) (by rfl) (by rw [hq9]) _ _ hP hD hS ls (lv_sub hl [3, 4, 2, 1, 0] rfl)
      · have c51n : (sp + 1) < tn := ft_nleN (by omega) (by omega) c51
        refine lv_aload_n hx hb dX11_readsNumber_54 rfl (lv_at hl 1 rfl) ?_
        refine va_get (D := D) (ci := 11) (v := .ref p3) (C := RX11) (T := TX11) (N := 33) hx hb hts (by decide +kernel) hown hK hP 0 rfl rfl 3 (by decide) (hts (.fieldLink RX11 16 "FiberTraceModel" "text" "[I") (by decide +kernel)) (fun _ h9 => h9) rfl dX11_readsNumber_55 ?_
        refine lv_aload_n hx hb dX11_readsNumber_58 rfl (lv_at hl 1 rfl) ?_
        refine va_get (D := D) (ci := 11) (v := .int (nI (sp + 1))) (C := RX11) (T := TX11) (N := 33) hx hb hts (by decide +kernel) hown hK hP 0 rfl rfl 6 (by decide) (hts (.fieldLink RX11 100 "FiberTraceModel" "spot" "I") (by decide +kernel)) (fun _ h9 => h9) rfl dX11_readsNumber_59 ?_
        refine va_iald hx hb hK hP 1 0 rfl rfl (vp_in_nI (by omega) (by omega)) dX11_readsNumber_62 ?_
        refine ft_top (y := tx (sp + 1)) (ft_clampN (by omega)) ?_
        refine lv_bipush (v := 45) hx hb dX11_readsNumber_63 (by decide) ?_
        refine lv_icmp_ne (tgt := 80) hx hb dX11_readsNumber_65 (by decide) (fun c65 => ?_) (fun c65 => ?_)
        · have hng : ¬ ftNg tx tn sp := fun q => c65 q.2
          have hq8 : ftNq tx tn sp = sp + 1 := ftNq_f hng
          obtain ⟨q9, hq9⟩ : ∃ q9, q9 = sp + 1 := ⟨_, rfl⟩
          have hqq : ftNq tx tn sp = q9 := by rw [hq9]; exact hq8
          have hqn : q9 ≤ tn := by omega
          refine lv_iconst (v := 0) hx hb dX11_readsNumber_80 (by decide) ?_
          refine lv_istore_n (lv' := [(3, .int 0), (2, .int 1), (0, .ref m0), (1, .int (nI i))]) hx hb dX11_readsNumber_81 rfl hl (by decide) rfl (fun ls hl => ?_)
          refine lv_iconst (v := 0) hx hb dX11_readsNumber_82 (by decide) ?_
          refine lv_istore (lv' := [(4, .int 0), (3, .int 0), (2, .int 1), (0, .ref m0), (1, .int (nI i))]) hx hb dX11_readsNumber_83 hl (by decide) rfl (fun ls hl => ?_)
          have lp85 : ∀ (n85 : Nat) (k : Nat) (x85_3 : Int32) (x85_4 : Int32) (g85_m0_6 : Int32), 5 - k < n85 → (k ≤ 5) → (∀ t, t < k → ftDp tx tn q9 t) → (q9 + k ≤ tn) → x85_3 = ftDg tx q9 k → x85_4 = nI k → g85_m0_6 = nI (q9 + k) → ∀ (H : Heap) (locs : List Loc), va_P D vwCl [(m0, .inr (11, [.ref p0, .ref p1, .int i2, .ref p3, .int (nI tn), .ref p5, .int g85_m0_6, .int i7, .int i8, .int i9, .ref p10, .int 0, .ref p12, .ref p13, .ref p14, .int i15, .ref p16, .ref p17, .int i18, .ref p19, .ref p20, .ref p21, .ref p22, .int i23, .int i24, .ref p25, .ref p26, .ref p27, .ref p28, .ref p29, .ref p30, .ref p31, .ref p32])), (p3, .inl (cI, 120, .inl tx)), (p10, .inl (cI, 3, .inl fg))] H → va_D A [(m0, .inr (11, [.ref p0, .ref p1, .int i2, .ref p3, .int (nI tn), .ref p5, .int g85_m0_6, .int i7, .int i8, .int i9, .ref p10, .int 0, .ref p12, .ref p13, .ref p14, .int i15, .ref p16, .ref p17, .int i18, .ref p19, .ref p20, .ref p21, .ref p22, .int i23, .int i24, .ref p25, .ref p26, .ref p27, .ref p28, .ref p29, .ref p30, .ref p31, .ref p32])), (p3, .inl (cI, 120, .inl tx)), (p10, .inl (cI, 3, .inl fg))] → va_S A s.heap H locs → ∀ ls : Array Slot, lv_has ls 5 [(0, .ref m0), (1, .int (nI i)), (2, .int 1), (3, .int x85_3), (4, .int x85_4)] → W p l e (headSpec wsX11_readsNumber { frames := 1, cells := 0, slots := 0, locals := 25 }).room s m ([.ref m0, .int (nI i)] : List Value).toArray below meth c H locs 0 0 (MQ below (ftQv D [(m0, .inr (11, [.ref p0, .ref p1, .int i2, .ref p3, .int (nI tn), .ref p5, .int (nI sp), .int i7, .int i8, .int i9, .ref p10, .int i11, .ref p12, .ref p13, .ref p14, .int i15, .ref p16, .ref p17, .int i18, .ref p19, .ref p20, .ref p21, .ref p22, .int i23, .int i24, .ref p25, .ref p26, .ref p27, .ref p28, .ref p29, .ref p30, .ref p31, .ref p32])), (p3, .inl (cI, 120, .inl tx)), (p10, .inl (cI, 3, .inl fg))] [(m0, .inr (11, [.ref p0, .ref p1, .int i2, .ref p3, .int (nI tn), .ref p5, .int (nI (ftNe tx tn sp)), .int i7, .int i8, .int i9, .ref p10, .int (ftB (ftNok tx tn sp)), .ref p12, .ref p13, .ref p14, .int i15, .ref p16, .ref p17, .int i18, .ref p19, .ref p20, .ref p21, .ref p22, .int i23, .int i24, .ref p25, .ref p26, .ref p27, .ref p28, .ref p29, .ref p30, .ref p31, .ref p32])), (p3, .inl (cI, 120, .inl tx)), (p10, .inl (cI, 3, .inl (ftNf tx tn sp i fg)))] s.heap.size) ([.ref m0, .int (nI i)] : List Value).toArray s 0 0 A) (F0 m 85 ls []) := by
            intro n85
            induction n85 with
            | zero =>
              intro k x85_3 x85_4 g85_m0_6 hm85
              exact absurd hm85 (Nat.not_lt_zero _)
            | succ n85 ih85 =>
              intro k x85_3 x85_4 g85_m0_6 hm85 hk5 hall hqk ex85_3 ex85_4 eg85_m0_6 H locs hP hD hS ls hl
              subst ex85_4
              subst eg85_m0_6
              refine lv_iload hx hb dX11_readsNumber_85 (lv_at hl 4 rfl) ?_
              refine lv_iconst (v := 5) hx hb dX11_readsNumber_87 (by decide) ?_
              refine lv_icmp_ge (tgt := 158) hx hb dX11_readsNumber_88 (by decide) (fun c88 => ?_) (fun c88 => ?_)
              · have c88n : 5 ≤ k := ft_leN (by omega) (by omega) c88
                have hm : ftNd tx tn q9 = k := ftIni_of (by omega) hall (fun h => absurd h (by omega))
                refine lv_aload_n hx hb dX11_readsNumber_158 rfl (lv_at hl 0 rfl) ?_
                refine va_get (D := D) (ci := 11) (v := .ref p10) (C := RX11) (T := TX11) (N := 33) hx hb hts (by decide +kernel) hown hK hP 0 rfl rfl 10 (by decide) (hts (.fieldLink RX11 22 "FiberTraceModel" "figured" "[I") (by decide +kernel)) (fun _ h9 => h9) rfl dX11_readsNumber_159 ?_
                refine lv_iload_n hx hb dX11_readsNumber_162 rfl (lv_at hl 1 rfl) ?_
                refine lv_iload_n hx hb dX11_readsNumber_163 rfl (lv_at hl 2 rfl) ?_
                refine lv_iload_n hx hb dX11_readsNumber_164 rfl (lv_at hl 3 rfl) ?_
                refine lv_imul hx hb dX11_readsNumber_165 ?_
                refine va_iast hx hb hK hP hD hS 2 0 rfl rfl (vp_in_nI (by omega) (by omega)) dX11_readsNumber_166 (fun H locs hP hD hS => ?_)
                rw [nI_clamp (show i < 2 ^ 31 by omega)] at hP hD
                have hP : va_P D vwCl [(m0, .inr (11, [.ref p0, .ref p1, .int i2, .ref p3, .int (nI tn), .ref p5, .int (nI (q9 + k)), .int i7, .int i8, .int i9, .ref p10, .int 0, .ref p12, .ref p13, .ref p14, .int i15, .ref p16, .ref p17, .int i18, .ref p19, .ref p20, .ref p21, .ref p22, .int i23, .int i24, .ref p25, .ref p26, .ref p27, .ref p28, .ref p29, .ref p30, .ref p31, .ref p32])), (p3, .inl (cI, 120, .inl tx)), (p10, .inl (cI, 3, .inl (upd fg i (1 * x85_3))))] H := hP
                have hD : va_D A [(m0, .inr (11, [.ref p0, .ref p1, .int i2, .ref p3, .int (nI tn), .ref p5, .int (nI (q9 + k)), .int i7, .int i8, .int i9, .ref p10, .int 0, .ref p12, .ref p13, .ref p14, .int i15, .ref p16, .ref p17, .int i18, .ref p19, .ref p20, .ref p21, .ref p22, .int i23, .int i24, .ref p25, .ref p26, .ref p27, .ref p28, .ref p29, .ref p30, .ref p31, .ref p32])), (p3, .inl (cI, 120, .inl tx)), (p10, .inl (cI, 3, .inl (upd fg i (1 * x85_3))))] := hD
                refine lv_aload_n hx hb dX11_readsNumber_167 rfl (lv_at hl 0 rfl) ?_
                refine lv_iload hx hb dX11_readsNumber_168 (lv_at hl 4 rfl) ?_
                refine lv_if_le (tgt := 177) hx hb dX11_readsNumber_170 (by decide) (fun c170 => ?_) (fun c170 => ?_)
                · have c170n : k ≤ 0 := ft_leN (by omega) (by omega) c170
                  have hok9 : ftB (ftNok tx tn sp) = 0 := ftB_f (fun q => by have q2 := q.2; rw [hqq, hm] at q2; omega)
                  refine lv_iconst (v := 0) hx hb dX11_readsNumber_177 (by decide) ?_
                  refine va_put (D := D) (ci := 11) (v := .int 0) (ty := .boolean) (C := RX11) (T := TX11) (N := 33) hx hb hts (by decide +kernel) tyX11 tyX11_ok nmX11 hown hK hP hD hS 0 rfl rfl 11 (by decide) (hts (.fieldLink RX11 114 "FiberTraceModel" "isFigured" "Z") (by decide +kernel)) (fun _ h9 => h9) rfl (by decide +kernel) (by first | rfl | exact ftB_nar) rfl (Nat.le_of_ble_eq_true rfl) dX11_readsNumber_178 (fun H locs hP hD hS => ?_)
                  have hP : va_P D vwCl [(m0, .inr (11, [.ref p0, .ref p1, .int i2, .ref p3, .int (nI tn), .ref p5, .int (nI (q9 + k)), .int i7, .int i8, .int i9, .ref p10, .int 0, .ref p12, .ref p13, .ref p14, .int i15, .ref p16, .ref p17, .int i18, .ref p19, .ref p20, .ref p21, .ref p22, .int i23, .int i24, .ref p25, .ref p26, .ref p27, .ref p28, .ref p29, .ref p30, .ref p31, .ref p32])), (p3, .inl (cI, 120, .inl tx)), (p10, .inl (cI, 3, .inl (upd fg i (1 * x85_3))))] H := hP
                  have hD : va_D A [(m0, .inr (11, [.ref p0, .ref p1, .int i2, .ref p3, .int (nI tn), .ref p5, .int (nI (q9 + k)), .int i7, .int i8, .int i9, .ref p10, .int 0, .ref p12, .ref p13, .ref p14, .int i15, .ref p16, .ref p17, .int i18, .ref p19, .ref p20, .ref p21, .ref p22, .int i23, .int i24, .ref p25, .ref p26, .ref p27, .ref p28, .ref p29, .ref p30, .ref p31, .ref p32])), (p3, .inl (cI, 120, .inl tx)), (p10, .inl (cI, 3, .inl (upd fg i (1 * x85_3))))] := hD
                  have hw9 : ([(m0, .inr (11, [.ref p0, .ref p1, .int i2, .ref p3, .int (nI tn), .ref p5, .int (nI (q9 + k)), .int i7, .int i8, .int i9, .ref p10, .int 0, .ref p12, .ref p13, .ref p14, .int i15, .ref p16, .ref p17, .int i18, .ref p19, .ref p20, .ref p21, .ref p22, .int i23, .int i24, .ref p25, .ref p26, .ref p27, .ref p28, .ref p29, .ref p30, .ref p31, .ref p32])), (p3, .inl (cI, 120, .inl tx)), (p10, .inl (cI, 3, .inl (upd fg i (1 * x85_3))))] : va_W) = [(m0, .inr (11, [.ref p0, .ref p1, .int i2, .ref p3, .int (nI tn), .ref p5, .int (nI (ftNe tx tn sp)), .int i7, .int i8, .int i9, .ref p10, .int (ftB (ftNok tx tn sp)), .ref p12, .ref p13, .ref p14, .int i15, .ref p16, .ref p17, .int i18, .ref p19, .ref p20, .ref p21, .ref p22, .int i23, .int i24, .ref p25, .ref p26, .ref p27, .ref p28, .ref p29, .ref p30, .ref p31, .ref p32])), (p3, .inl (cI, 120, .inl tx)), (p10, .inl (cI, 3, .inl (ftNf tx tn sp i fg)))] := by rw [ftNe_t hsp, ftNf_t hsp, hok9, hqq, hm]; first | (rw [ftNv_t hng, hqq, hm, ex85_3]; done) | (rw [ftNv_f hng, hqq, hm, ex85_3]; done)
                  rw [hw9] at hP hD
                  exact W.vret hx hb hr (fun t ht hW => ⟨⟨(), rfl, trivial, by rw [ht]; exact hP, by rw [hAe]; exact hD⟩, by rw [hAe]; exact hS.F ht⟩) hS.2.2 dX11_readsNumber_181
                · have c170n : 0 < k := ft_nleN (by omega) (by omega) c170
                  have hok9 : ftB (ftNok tx tn sp) = 1 := ftB_t ⟨hsp, by rw [hqq, hm]; omega⟩
                  refine lv_iconst (v := 1) hx hb dX11_readsNumber_173 (by decide) ?_
                  refine lv_goto (tgt := 178) hx hb dX11_readsNumber_174 (by decide) ?_
                  refine va_put (D := D) (ci := 11) (v := .int 1) (ty := .boolean) (C := RX11) (T := TX11) (N := 33) hx hb hts (by decide +kernel) tyX11 tyX11_ok nmX11 hown hK hP hD hS 0 rfl rfl 11 (by decide) (hts (.fieldLink RX11 114 "FiberTraceModel" "isFigured" "Z") (by decide +kernel)) (fun _ h9 => h9) rfl (by decide +kernel) (by first | rfl | exact ftB_nar) rfl (Nat.le_of_ble_eq_true rfl) dX11_readsNumber_178 (fun H locs hP hD hS => ?_)
                  have hP : va_P D vwCl [(m0, .inr (11, [.ref p0, .ref p1, .int i2, .ref p3, .int (nI tn), .ref p5, .int (nI (q9 + k)), .int i7, .int i8, .int i9, .ref p10, .int 1, .ref p12, .ref p13, .ref p14, .int i15, .ref p16, .ref p17, .int i18, .ref p19, .ref p20, .ref p21, .ref p22, .int i23, .int i24, .ref p25, .ref p26, .ref p27, .ref p28, .ref p29, .ref p30, .ref p31, .ref p32])), (p3, .inl (cI, 120, .inl tx)), (p10, .inl (cI, 3, .inl (upd fg i (1 * x85_3))))] H := hP
                  have hD : va_D A [(m0, .inr (11, [.ref p0, .ref p1, .int i2, .ref p3, .int (nI tn), .ref p5, .int (nI (q9 + k)), .int i7, .int i8, .int i9, .ref p10, .int 1, .ref p12, .ref p13, .ref p14, .int i15, .ref p16, .ref p17, .int i18, .ref p19, .ref p20, .ref p21, .ref p22, .int i23, .int i24, .ref p25, .ref p26, .ref p27, .ref p28, .ref p29, .ref p30, .ref p31, .ref p32])), (p3, .inl (cI, 120, .inl tx)), (p10, .inl (cI, 3, .inl (upd fg i (1 * x85_3))))] := hD
                  have hw9 : ([(m0, .inr (11, [.ref p0, .ref p1, .int i2, .ref p3, .int (nI tn), .ref p5, .int (nI (q9 + k)), .int i7, .int i8, .int i9, .ref p10, .int 1, .ref p12, .ref p13, .ref p14, .int i15, .ref p16, .ref p17, .int i18, .ref p19, .ref p20, .ref p21, .ref p22, .int i23, .int i24, .ref p25, .ref p26, .ref p27, .ref p28, .ref p29, .ref p30, .ref p31, .ref p32])), (p3, .inl (cI, 120, .inl tx)), (p10, .inl (cI, 3, .inl (upd fg i (1 * x85_3))))] : va_W) = [(m0, .inr (11, [.ref p0, .ref p1, .int i2, .ref p3, .int (nI tn), .ref p5, .int (nI (ftNe tx tn sp)), .int i7, .int i8, .int i9, .ref p10, .int (ftB (ftNok tx tn sp)), .ref p12, .ref p13, .ref p14, .int i15, .ref p16, .ref p17, .int i18, .ref p19, .ref p20, .ref p21, .ref p22, .int i23, .int i24, .ref p25, .ref p26, .ref p27, .ref p28, .ref p29, .ref p30, .ref p31, .ref p32])), (p3, .inl (cI, 120, .inl tx)), (p10, .inl (cI, 3, .inl (ftNf tx tn sp i fg)))] := by rw [ftNe_t hsp, ftNf_t hsp, hok9, hqq, hm]; first | (rw [ftNv_t hng, hqq, hm, ex85_3]; done) | (rw [ftNv_f hng, hqq, hm, ex85_3]; done)
                  rw [hw9] at hP hD
                  exact W.vret hx hb hr (fun t ht hW => ⟨⟨(), rfl, trivial, by rw [ht]; exact hP, by rw [hAe]; exact hD⟩, by rw [hAe]; exact hS.F ht⟩) hS.2.2 dX11_readsNumber_181
              · have c88n : k < 5 := ft_nleN (by omega) (by omega) c88
                refine lv_aload_n hx hb dX11_readsNumber_91 rfl (lv_at hl 0 rfl) ?_
                refine va_get (D := D) (ci := 11) (v := .int (nI (q9 + k))) (C := RX11) (T := TX11) (N := 33) hx hb hts (by decide +kernel) hown hK hP 0 rfl rfl 6 (by decide) (hts (.fieldLink RX11 100 "FiberTraceModel" "spot" "I") (by decide +kernel)) (fun _ h9 => h9) rfl dX11_readsNumber_92 ?_
                refine lv_aload_n hx hb dX11_readsNumber_95 rfl (lv_at hl 0 rfl) ?_
                refine va_get (D := D) (ci := 11) (v := .int (nI tn)) (C := RX11) (T := TX11) (N := 33) hx hb hts (by decide +kernel) hown hK hP 0 rfl rfl 4 (by decide) (hts (.fieldLink RX11 96 "FiberTraceModel" "length" "I") (by decide +kernel)) (fun _ h9 => h9) rfl dX11_readsNumber_96 ?_
                refine lv_icmp_ge (tgt := 158) hx hb dX11_readsNumber_99 (by decide) (fun c99 => ?_) (fun c99 => ?_)
                · have c99n : tn ≤ (q9 + k) := ft_leN (by omega) (by omega) c99
                  have hm : ftNd tx tn q9 = k := ftIni_of (by omega) hall (fun _ q => absurd q.1 (by omega))
                  refine lv_aload_n hx hb dX11_readsNumber_158 rfl (lv_at hl 0 rfl) ?_
                  refine va_get (D := D) (ci := 11) (v := .ref p10) (C := RX11) (T := TX11) (N := 33) hx hb hts (by decide +kernel) hown hK hP 0 rfl rfl 10 (by decide) (hts (.fieldLink RX11 22 "FiberTraceModel" "figured" "[I") (by decide +kernel)) (fun _ h9 => h9) rfl dX11_readsNumber_159 ?_
                  refine lv_iload_n hx hb dX11_readsNumber_162 rfl (lv_at hl 1 rfl) ?_
                  refine lv_iload_n hx hb dX11_readsNumber_163 rfl (lv_at hl 2 rfl) ?_
                  refine lv_iload_n hx hb dX11_readsNumber_164 rfl (lv_at hl 3 rfl) ?_
                  refine lv_imul hx hb dX11_readsNumber_165 ?_
                  refine va_iast hx hb hK hP hD hS 2 0 rfl rfl (vp_in_nI (by omega) (by omega)) dX11_readsNumber_166 (fun H locs hP hD hS => ?_)
                  rw [nI_clamp (show i < 2 ^ 31 by omega)] at hP hD
                  have hP : va_P D vwCl [(m0, .inr (11, [.ref p0, .ref p1, .int i2, .ref p3, .int (nI tn), .ref p5, .int (nI (q9 + k)), .int i7, .int i8, .int i9, .ref p10, .int 0, .ref p12, .ref p13, .ref p14, .int i15, .ref p16, .ref p17, .int i18, .ref p19, .ref p20, .ref p21, .ref p22, .int i23, .int i24, .ref p25, .ref p26, .ref p27, .ref p28, .ref p29, .ref p30, .ref p31, .ref p32])), (p3, .inl (cI, 120, .inl tx)), (p10, .inl (cI, 3, .inl (upd fg i (1 * x85_3))))] H := hP
                  have hD : va_D A [(m0, .inr (11, [.ref p0, .ref p1, .int i2, .ref p3, .int (nI tn), .ref p5, .int (nI (q9 + k)), .int i7, .int i8, .int i9, .ref p10, .int 0, .ref p12, .ref p13, .ref p14, .int i15, .ref p16, .ref p17, .int i18, .ref p19, .ref p20, .ref p21, .ref p22, .int i23, .int i24, .ref p25, .ref p26, .ref p27, .ref p28, .ref p29, .ref p30, .ref p31, .ref p32])), (p3, .inl (cI, 120, .inl tx)), (p10, .inl (cI, 3, .inl (upd fg i (1 * x85_3))))] := hD
                  refine lv_aload_n hx hb dX11_readsNumber_167 rfl (lv_at hl 0 rfl) ?_
                  refine lv_iload hx hb dX11_readsNumber_168 (lv_at hl 4 rfl) ?_
                  refine lv_if_le (tgt := 177) hx hb dX11_readsNumber_170 (by decide) (fun c170 => ?_) (fun c170 => ?_)
                  · have c170n : k ≤ 0 := ft_leN (by omega) (by omega) c170
                    have hok9 : ftB (ftNok tx tn sp) = 0 := ftB_f (fun q => by have q2 := q.2; rw [hqq, hm] at q2; omega)
                    refine lv_iconst (v := 0) hx hb dX11_readsNumber_177 (by decide) ?_
                    refine va_put (D := D) (ci := 11) (v := .int 0) (ty := .boolean) (C := RX11) (T := TX11) (N := 33) hx hb hts (by decide +kernel) tyX11 tyX11_ok nmX11 hown hK hP hD hS 0 rfl rfl 11 (by decide) (hts (.fieldLink RX11 114 "FiberTraceModel" "isFigured" "Z") (by decide +kernel)) (fun _ h9 => h9) rfl (by decide +kernel) (by first | rfl | exact ftB_nar) rfl (Nat.le_of_ble_eq_true rfl) dX11_readsNumber_178 (fun H locs hP hD hS => ?_)
                    have hP : va_P D vwCl [(m0, .inr (11, [.ref p0, .ref p1, .int i2, .ref p3, .int (nI tn), .ref p5, .int (nI (q9 + k)), .int i7, .int i8, .int i9, .ref p10, .int 0, .ref p12, .ref p13, .ref p14, .int i15, .ref p16, .ref p17, .int i18, .ref p19, .ref p20, .ref p21, .ref p22, .int i23, .int i24, .ref p25, .ref p26, .ref p27, .ref p28, .ref p29, .ref p30, .ref p31, .ref p32])), (p3, .inl (cI, 120, .inl tx)), (p10, .inl (cI, 3, .inl (upd fg i (1 * x85_3))))] H := hP
                    have hD : va_D A [(m0, .inr (11, [.ref p0, .ref p1, .int i2, .ref p3, .int (nI tn), .ref p5, .int (nI (q9 + k)), .int i7, .int i8, .int i9, .ref p10, .int 0, .ref p12, .ref p13, .ref p14, .int i15, .ref p16, .ref p17, .int i18, .ref p19, .ref p20, .ref p21, .ref p22, .int i23, .int i24, .ref p25, .ref p26, .ref p27, .ref p28, .ref p29, .ref p30, .ref p31, .ref p32])), (p3, .inl (cI, 120, .inl tx)), (p10, .inl (cI, 3, .inl (upd fg i (1 * x85_3))))] := hD
                    have hw9 : ([(m0, .inr (11, [.ref p0, .ref p1, .int i2, .ref p3, .int (nI tn), .ref p5, .int (nI (q9 + k)), .int i7, .int i8, .int i9, .ref p10, .int 0, .ref p12, .ref p13, .ref p14, .int i15, .ref p16, .ref p17, .int i18, .ref p19, .ref p20, .ref p21, .ref p22, .int i23, .int i24, .ref p25, .ref p26, .ref p27, .ref p28, .ref p29, .ref p30, .ref p31, .ref p32])), (p3, .inl (cI, 120, .inl tx)), (p10, .inl (cI, 3, .inl (upd fg i (1 * x85_3))))] : va_W) = [(m0, .inr (11, [.ref p0, .ref p1, .int i2, .ref p3, .int (nI tn), .ref p5, .int (nI (ftNe tx tn sp)), .int i7, .int i8, .int i9, .ref p10, .int (ftB (ftNok tx tn sp)), .ref p12, .ref p13, .ref p14, .int i15, .ref p16, .ref p17, .int i18, .ref p19, .ref p20, .ref p21, .ref p22, .int i23, .int i24, .ref p25, .ref p26, .ref p27, .ref p28, .ref p29, .ref p30, .ref p31, .ref p32])), (p3, .inl (cI, 120, .inl tx)), (p10, .inl (cI, 3, .inl (ftNf tx tn sp i fg)))] := by rw [ftNe_t hsp, ftNf_t hsp, hok9, hqq, hm]; first | (rw [ftNv_t hng, hqq, hm, ex85_3]; done) | (rw [ftNv_f hng, hqq, hm, ex85_3]; done)
                    rw [hw9] at hP hD
                    exact W.vret hx hb hr (fun t ht hW => ⟨⟨(), rfl, trivial, by rw [ht]; exact hP, by rw [hAe]; exact hD⟩, by rw [hAe]; exact hS.F ht⟩) hS.2.2 dX11_readsNumber_181
                  · have c170n : 0 < k := ft_nleN (by omega) (by omega) c170
                    have hok9 : ftB (ftNok tx tn sp) = 1 := ftB_t ⟨hsp, by rw [hqq, hm]; omega⟩
                    refine lv_iconst (v := 1) hx hb dX11_readsNumber_173 (by decide) ?_
                    refine lv_goto (tgt := 178) hx hb dX11_readsNumber_174 (by decide) ?_
                    refine va_put (D := D) (ci := 11) (v := .int 1) (ty := .boolean) (C := RX11) (T := TX11) (N := 33) hx hb hts (by decide +kernel) tyX11 tyX11_ok nmX11 hown hK hP hD hS 0 rfl rfl 11 (by decide) (hts (.fieldLink RX11 114 "FiberTraceModel" "isFigured" "Z") (by decide +kernel)) (fun _ h9 => h9) rfl (by decide +kernel) (by first | rfl | exact ftB_nar) rfl (Nat.le_of_ble_eq_true rfl) dX11_readsNumber_178 (fun H locs hP hD hS => ?_)
                    have hP : va_P D vwCl [(m0, .inr (11, [.ref p0, .ref p1, .int i2, .ref p3, .int (nI tn), .ref p5, .int (nI (q9 + k)), .int i7, .int i8, .int i9, .ref p10, .int 1, .ref p12, .ref p13, .ref p14, .int i15, .ref p16, .ref p17, .int i18, .ref p19, .ref p20, .ref p21, .ref p22, .int i23, .int i24, .ref p25, .ref p26, .ref p27, .ref p28, .ref p29, .ref p30, .ref p31, .ref p32])), (p3, .inl (cI, 120, .inl tx)), (p10, .inl (cI, 3, .inl (upd fg i (1 * x85_3))))] H := hP
                    have hD : va_D A [(m0, .inr (11, [.ref p0, .ref p1, .int i2, .ref p3, .int (nI tn), .ref p5, .int (nI (q9 + k)), .int i7, .int i8, .int i9, .ref p10, .int 1, .ref p12, .ref p13, .ref p14, .int i15, .ref p16, .ref p17, .int i18, .ref p19, .ref p20, .ref p21, .ref p22, .int i23, .int i24, .ref p25, .ref p26, .ref p27, .ref p28, .ref p29, .ref p30, .ref p31, .ref p32])), (p3, .inl (cI, 120, .inl tx)), (p10, .inl (cI, 3, .inl (upd fg i (1 * x85_3))))] := hD
                    have hw9 : ([(m0, .inr (11, [.ref p0, .ref p1, .int i2, .ref p3, .int (nI tn), .ref p5, .int (nI (q9 + k)), .int i7, .int i8, .int i9, .ref p10, .int 1, .ref p12, .ref p13, .ref p14, .int i15, .ref p16, .ref p17, .int i18, .ref p19, .ref p20, .ref p21, .ref p22, .int i23, .int i24, .ref p25, .ref p26, .ref p27, .ref p28, .ref p29, .ref p30, .ref p31, .ref p32])), (p3, .inl (cI, 120, .inl tx)), (p10, .inl (cI, 3, .inl (upd fg i (1 * x85_3))))] : va_W) = [(m0, .inr (11, [.ref p0, .ref p1, .int i2, .ref p3, .int (nI tn), .ref p5, .int (nI (ftNe tx tn sp)), .int i7, .int i8, .int i9, .ref p10, .int (ftB (ftNok tx tn sp)), .ref p12, .ref p13, .ref p14, .int i15, .ref p16, .ref p17, .int i18, .ref p19, .ref p20, .ref p21, .ref p22, .int i23, .int i24, .ref p25, .ref p26, .ref p27, .ref p28, .ref p29, .ref p30, .ref p31, .ref p32])), (p3, .inl (cI, 120, .inl tx)), (p10, .inl (cI, 3, .inl (ftNf tx tn sp i fg)))] := by rw [ftNe_t hsp, ftNf_t hsp, hok9, hqq, hm]; first | (rw [ftNv_t hng, hqq, hm, ex85_3]; done) | (rw [ftNv_f hng, hqq, hm, ex85_3]; done)
                    rw [hw9] at hP hD
                    exact W.vret hx hb hr (fun t ht hW => ⟨⟨(), rfl, trivial, by rw [ht]; exact hP, by rw [hAe]; exact hD⟩, by rw [hAe]; exact hS.F ht⟩) hS.2.2 dX11_readsNumber_181
                · have c99n : (q9 + k) < tn := ft_nleN (by omega) (by omega) c99
                  refine lv_aload_n hx hb dX11_readsNumber_102 rfl (lv_at hl 0 rfl) ?_
                  refine va_get (D := D) (ci := 11) (v := .ref p3) (C := RX11) (T := TX11) (N := 33) hx hb hts (by decide +kernel) hown hK hP 0 rfl rfl 3 (by decide) (hts (.fieldLink RX11 16 "FiberTraceModel" "text" "[I") (by decide +kernel)) (fun _ h9 => h9) rfl dX11_readsNumber_103 ?_
                  refine lv_aload_n hx hb dX11_readsNumber_106 rfl (lv_at hl 0 rfl) ?_
                  refine va_get (D := D) (ci := 11) (v := .int (nI (q9 + k))) (C := RX11) (T := TX11) (N := 33) hx hb hts (by decide +kernel) hown hK hP 0 rfl rfl 6 (by decide) (hts (.fieldLink RX11 100 "FiberTraceModel" "spot" "I") (by decide +kernel)) (fun _ h9 => h9) rfl dX11_readsNumber_107 ?_
                  refine va_iald hx hb hK hP 1 0 rfl rfl (vp_in_nI (by omega) (by omega)) dX11_readsNumber_110 ?_
                  refine ft_top (y := tx (q9 + k)) (ft_clampN (by omega)) ?_
                  refine lv_i2l (v := (tx (q9 + k)).toInt64) hx hb dX11_readsNumber_111 rfl ?_
                  refine lv_ldc2 (v := 48) hx hb hown (hts (.constantLong RX11 118 48) (by decide +kernel)) dX11_readsNumber_112 ?_
                  refine lv_ldc2 (v := 57) hx hb hown (hts (.constantLong RX11 120 57) (by decide +kernel)) dX11_readsNumber_115 ?_
                  refine ft_csi (r := ftB (48 ≤ ((tx (q9 + k)).toInt64) ∧ ((tx (q9 + k)).toInt64) ≤ 57)) (va_runS (As := [.long ((tx (q9 + k)).toInt64), .long 48, .long 57]) (rest := []) ⟨hx, hb, hml, hown, hts⟩ (c_X11_in l D cI cS ((tx (q9 + k)).toInt64) 48 57) (va_cwS 3 hts gX11_readsNumber_X11_in rfl rfl rfl (by decide +kernel) ⟨Nat.le_of_ble_eq_true rfl, Nat.le_of_ble_eq_true rfl⟩) (ft_preRO hP hKK [] rfl) rfl rfl hl.1 rfl (lv_room (Nat.le_of_ble_eq_true rfl)) dX11_readsNumber_118 ⟨Nat.le_of_ble_eq_true rfl, Nat.le_of_ble_eq_true rfl⟩) ?_
                  refine ft_top (y := ftB (48 ≤ (tx (q9 + k)) ∧ (tx (q9 + k)) ≤ 57)) (ft_in64 (by decide) (by decide)) ?_
                  refine lv_if_eq (tgt := 158) hx hb dX11_readsNumber_121 (by decide) (fun c121 => ?_) (fun c121 => ?_)
                  · replace c121 := ftB_eq c121
                    have hm : ftNd tx tn q9 = k := ftIni_of (by omega) hall (fun _ q => c121 q.2)
                    refine lv_aload_n hx hb dX11_readsNumber_158 rfl (lv_at hl 0 rfl) ?_
                    refine va_get (D := D) (ci := 11) (v := .ref p10) (C := RX11) (T := TX11) (N := 33) hx hb hts (by decide +kernel) hown hK hP 0 rfl rfl 10 (by decide) (hts (.fieldLink RX11 22 "FiberTraceModel" "figured" "[I") (by decide +kernel)) (fun _ h9 => h9) rfl dX11_readsNumber_159 ?_
                    refine lv_iload_n hx hb dX11_readsNumber_162 rfl (lv_at hl 1 rfl) ?_
                    refine lv_iload_n hx hb dX11_readsNumber_163 rfl (lv_at hl 2 rfl) ?_
                    refine lv_iload_n hx hb dX11_readsNumber_164 rfl (lv_at hl 3 rfl) ?_
                    refine lv_imul hx hb dX11_readsNumber_165 ?_
                    refine va_iast hx hb hK hP hD hS 2 0 rfl rfl (vp_in_nI (by omega) (by omega)) dX11_readsNumber_166 (fun H locs hP hD hS => ?_)
                    rw [nI_clamp (show i < 2 ^ 31 by omega)] at hP hD
                    have hP : va_P D vwCl [(m0, .inr (11, [.ref p0, .ref p1, .int i2, .ref p3, .int (nI tn), .ref p5, .int (nI (q9 + k)), .int i7, .int i8, .int i9, .ref p10, .int 0, .ref p12, .ref p13, .ref p14, .int i15, .ref p16, .ref p17, .int i18, .ref p19, .ref p20, .ref p21, .ref p22, .int i23, .int i24, .ref p25, .ref p26, .ref p27, .ref p28, .ref p29, .ref p30, .ref p31, .ref p32])), (p3, .inl (cI, 120, .inl tx)), (p10, .inl (cI, 3, .inl (upd fg i (1 * x85_3))))] H := hP
                    have hD : va_D A [(m0, .inr (11, [.ref p0, .ref p1, .int i2, .ref p3, .int (nI tn), .ref p5, .int (nI (q9 + k)), .int i7, .int i8, .int i9, .ref p10, .int 0, .ref p12, .ref p13, .ref p14, .int i15, .ref p16, .ref p17, .int i18, .ref p19, .ref p20, .ref p21, .ref p22, .int i23, .int i24, .ref p25, .ref p26, .ref p27, .ref p28, .ref p29, .ref p30, .ref p31, .ref p32])), (p3, .inl (cI, 120, .inl tx)), (p10, .inl (cI, 3, .inl (upd fg i (1 * x85_3))))] := hD
                    refine lv_aload_n hx hb dX11_readsNumber_167 rfl (lv_at hl 0 rfl) ?_
                    refine lv_iload hx hb dX11_readsNumber_168 (lv_at hl 4 rfl) ?_
                    refine lv_if_le (tgt := 177) hx hb dX11_readsNumber_170 (by decide) (fun c170 => ?_) (fun c170 => ?_)
                    · have c170n : k ≤ 0 := ft_leN (by omega) (by omega) c170
                      have hok9 : ftB (ftNok tx tn sp) = 0 := ftB_f (fun q => by have q2 := q.2; rw [hqq, hm] at q2; omega)
                      refine lv_iconst (v := 0) hx hb dX11_readsNumber_177 (by decide) ?_
                      refine va_put (D := D) (ci := 11) (v := .int 0) (ty := .boolean) (C := RX11) (T := TX11) (N := 33) hx hb hts (by decide +kernel) tyX11 tyX11_ok nmX11 hown hK hP hD hS 0 rfl rfl 11 (by decide) (hts (.fieldLink RX11 114 "FiberTraceModel" "isFigured" "Z") (by decide +kernel)) (fun _ h9 => h9) rfl (by decide +kernel) (by first | rfl | exact ftB_nar) rfl (Nat.le_of_ble_eq_true rfl) dX11_readsNumber_178 (fun H locs hP hD hS => ?_)
                      have hP : va_P D vwCl [(m0, .inr (11, [.ref p0, .ref p1, .int i2, .ref p3, .int (nI tn), .ref p5, .int (nI (q9 + k)), .int i7, .int i8, .int i9, .ref p10, .int 0, .ref p12, .ref p13, .ref p14, .int i15, .ref p16, .ref p17, .int i18, .ref p19, .ref p20, .ref p21, .ref p22, .int i23, .int i24, .ref p25, .ref p26, .ref p27, .ref p28, .ref p29, .ref p30, .ref p31, .ref p32])), (p3, .inl (cI, 120, .inl tx)), (p10, .inl (cI, 3, .inl (upd fg i (1 * x85_3))))] H := hP
                      have hD : va_D A [(m0, .inr (11, [.ref p0, .ref p1, .int i2, .ref p3, .int (nI tn), .ref p5, .int (nI (q9 + k)), .int i7, .int i8, .int i9, .ref p10, .int 0, .ref p12, .ref p13, .ref p14, .int i15, .ref p16, .ref p17, .int i18, .ref p19, .ref p20, .ref p21, .ref p22, .int i23, .int i24, .ref p25, .ref p26, .ref p27, .ref p28, .ref p29, .ref p30, .ref p31, .ref p32])), (p3, .inl (cI, 120, .inl tx)), (p10, .inl (cI, 3, .inl (upd fg i (1 * x85_3))))] := hD
                      have hw9 : ([(m0, .inr (11, [.ref p0, .ref p1, .int i2, .ref p3, .int (nI tn), .ref p5, .int (nI (q9 + k)), .int i7, .int i8, .int i9, .ref p10, .int 0, .ref p12, .ref p13, .ref p14, .int i15, .ref p16, .ref p17, .int i18, .ref p19, .ref p20, .ref p21, .ref p22, .int i23, .int i24, .ref p25, .ref p26, .ref p27, .ref p28, .ref p29, .ref p30, .ref p31, .ref p32])), (p3, .inl (cI, 120, .inl tx)), (p10, .inl (cI, 3, .inl (upd fg i (1 * x85_3))))] : va_W) = [(m0, .inr (11, [.ref p0, .ref p1, .int i2, .ref p3, .int (nI tn), .ref p5, .int (nI (ftNe tx tn sp)), .int i7, .int i8, .int i9, .ref p10, .int (ftB (ftNok tx tn sp)), .ref p12, .ref p13, .ref p14, .int i15, .ref p16, .ref p17, .int i18, .ref p19, .ref p20, .ref p21, .ref p22, .int i23, .int i24, .ref p25, .ref p26, .ref p27, .ref p28, .ref p29, .ref p30, .ref p31, .ref p32])), (p3, .inl (cI, 120, .inl tx)), (p10, .inl (cI, 3, .inl (ftNf tx tn sp i fg)))] := by rw [ftNe_t hsp, ftNf_t hsp, hok9, hqq, hm]; first | (rw [ftNv_t hng, hqq, hm, ex85_3]; done) | (rw [ftNv_f hng, hqq, hm, ex85_3]; done)
                      rw [hw9] at hP hD
                      exact W.vret hx hb hr (fun t ht hW => ⟨⟨(), rfl, trivial, by rw [ht]; exact hP, by rw [hAe]; exact hD⟩, by rw [hAe]; exact hS.F ht⟩) hS.2.2 dX11_readsNumber_181
                    · have c170n : 0 < k := ft_nleN (by omega) (by omega) c170
                      have hok9 : ftB (ftNok tx tn sp) = 1 := ftB_t ⟨hsp, by rw [hqq, hm]; omega⟩
                      refine lv_iconst (v := 1) hx hb dX11_readsNumber_173 (by decide) ?_
                      refine lv_goto (tgt := 178) hx hb dX11_readsNumber_174 (by decide) ?_
                      refine va_put (D := D) (ci := 11) (v := .int 1) (ty := .boolean) (C := RX11) (T := TX11) (N := 33) hx hb hts (by decide +kernel) tyX11 tyX11_ok nmX11 hown hK hP hD hS 0 rfl rfl 11 (by decide) (hts (.fieldLink RX11 114 "FiberTraceModel" "isFigured" "Z") (by decide +kernel)) (fun _ h9 => h9) rfl (by decide +kernel) (by first | rfl | exact ftB_nar) rfl (Nat.le_of_ble_eq_true rfl) dX11_readsNumber_178 (fun H locs hP hD hS => ?_)
                      have hP : va_P D vwCl [(m0, .inr (11, [.ref p0, .ref p1, .int i2, .ref p3, .int (nI tn), .ref p5, .int (nI (q9 + k)), .int i7, .int i8, .int i9, .ref p10, .int 1, .ref p12, .ref p13, .ref p14, .int i15, .ref p16, .ref p17, .int i18, .ref p19, .ref p20, .ref p21, .ref p22, .int i23, .int i24, .ref p25, .ref p26, .ref p27, .ref p28, .ref p29, .ref p30, .ref p31, .ref p32])), (p3, .inl (cI, 120, .inl tx)), (p10, .inl (cI, 3, .inl (upd fg i (1 * x85_3))))] H := hP
                      have hD : va_D A [(m0, .inr (11, [.ref p0, .ref p1, .int i2, .ref p3, .int (nI tn), .ref p5, .int (nI (q9 + k)), .int i7, .int i8, .int i9, .ref p10, .int 1, .ref p12, .ref p13, .ref p14, .int i15, .ref p16, .ref p17, .int i18, .ref p19, .ref p20, .ref p21, .ref p22, .int i23, .int i24, .ref p25, .ref p26, .ref p27, .ref p28, .ref p29, .ref p30, .ref p31, .ref p32])), (p3, .inl (cI, 120, .inl tx)), (p10, .inl (cI, 3, .inl (upd fg i (1 * x85_3))))] := hD
                      have hw9 : ([(m0, .inr (11, [.ref p0, .ref p1, .int i2, .ref p3, .int (nI tn), .ref p5, .int (nI (q9 + k)), .int i7, .int i8, .int i9, .ref p10, .int 1, .ref p12, .ref p13, .ref p14, .int i15, .ref p16, .ref p17, .int i18, .ref p19, .ref p20, .ref p21, .ref p22, .int i23, .int i24, .ref p25, .ref p26, .ref p27, .ref p28, .ref p29, .ref p30, .ref p31, .ref p32])), (p3, .inl (cI, 120, .inl tx)), (p10, .inl (cI, 3, .inl (upd fg i (1 * x85_3))))] : va_W) = [(m0, .inr (11, [.ref p0, .ref p1, .int i2, .ref p3, .int (nI tn), .ref p5, .int (nI (ftNe tx tn sp)), .int i7, .int i8, .int i9, .ref p10, .int (ftB (ftNok tx tn sp)), .ref p12, .ref p13, .ref p14, .int i15, .ref p16, .ref p17, .int i18, .ref p19, .ref p20, .ref p21, .ref p22, .int i23, .int i24, .ref p25, .ref p26, .ref p27, .ref p28, .ref p29, .ref p30, .ref p31, .ref p32])), (p3, .inl (cI, 120, .inl tx)), (p10, .inl (cI, 3, .inl (ftNf tx tn sp i fg)))] := by rw [ftNe_t hsp, ftNf_t hsp, hok9, hqq, hm]; first | (rw [ftNv_t hng, hqq, hm, ex85_3]; done) | (rw [ftNv_f hng, hqq, hm, ex85_3]; done)
                      rw [hw9] at hP hD
                      exact W.vret hx hb hr (fun t ht hW => ⟨⟨(), rfl, trivial, by rw [ht]; exact hP, by rw [hAe]; exact hD⟩, by rw [hAe]; exact hS.F ht⟩) hS.2.2 dX11_readsNumber_181
                  · replace c121 := ftB_ne c121
                    have hlo := c121
                    refine lv_bipush (v := 10) hx hb dX11_readsNumber_124 (by decide) ?_
                    refine lv_iload_n hx hb dX11_readsNumber_126 rfl (lv_at hl 3 rfl) ?_
                    refine lv_imul hx hb dX11_readsNumber_127 ?_
                    refine lv_aload_n hx hb dX11_readsNumber_128 rfl (lv_at hl 0 rfl) ?_
                    refine va_get (D := D) (ci := 11) (v := .ref p3) (C := RX11) (T := TX11) (N := 33) hx hb hts (by decide +kernel) hown hK hP 0 rfl rfl 3 (by decide) (hts (.fieldLink RX11 16 "FiberTraceModel" "text" "[I") (by decide +kernel)) (fun _ h9 => h9) rfl dX11_readsNumber_129 ?_
                    refine lv_aload_n hx hb dX11_readsNumber_132 rfl (lv_at hl 0 rfl) ?_
                    refine va_get (D := D) (ci := 11) (v := .int (nI (q9 + k))) (C := RX11) (T := TX11) (N := 33) hx hb hts (by decide +kernel) hown hK hP 0 rfl rfl 6 (by decide) (hts (.fieldLink RX11 100 "FiberTraceModel" "spot" "I") (by decide +kernel)) (fun _ h9 => h9) rfl dX11_readsNumber_133 ?_
                    refine va_iald hx hb hK hP 1 0 rfl rfl (vp_in_nI (by omega) (by omega)) dX11_readsNumber_136 ?_
                    refine ft_top (y := tx (q9 + k)) (ft_clampN (by omega)) ?_
                    refine lv_iadd hx hb dX11_readsNumber_137 ?_
                    refine lv_bipush (v := 48) hx hb dX11_readsNumber_138 (by decide) ?_
                    refine lv_isub hx hb dX11_readsNumber_140 ?_
                    refine lv_istore_n (lv' := [(3, .int (((10 * x85_3) + (tx (q9 + k))) - 48)), (0, .ref m0), (1, .int (nI i)), (2, .int 1), (4, .int (nI k))]) hx hb dX11_readsNumber_141 rfl hl (by decide) rfl (fun ls hl => ?_)
                    refine lv_aload_n hx hb dX11_readsNumber_142 rfl (lv_at hl 1 rfl) ?_
                    refine lv_dup hx hb dX11_readsNumber_143 rfl ?_
                    refine va_get (D := D) (ci := 11) (v := .int (nI (q9 + k))) (C := RX11) (T := TX11) (N := 33) hx hb hts (by decide +kernel) hown hK hP 0 rfl rfl 6 (by decide) (hts (.fieldLink RX11 100 "FiberTraceModel" "spot" "I") (by decide +kernel)) (fun _ h9 => h9) rfl dX11_readsNumber_144 ?_
                    refine lv_iconst (v := 1) hx hb dX11_readsNumber_147 (by decide) ?_
                    refine lv_iadd hx hb dX11_readsNumber_148 ?_
                    refine ft_top (y := nI ((q9 + k) + 1)) (ft_addN (q9 + k) 1) ?_
                    refine va_put (D := D) (ci := 11) (v := .int (nI ((q9 + k) + 1))) (ty := .int) (C := RX11) (T := TX11) (N := 33) hx hb hts (by decide +kernel) tyX11 tyX11_ok nmX11 hown hK hP hD hS 0 rfl rfl 6 (by decide) (hts (.fieldLink RX11 100 "FiberTraceModel" "spot" "I") (by decide +kernel)) (fun _ h9 => h9) rfl (by decide +kernel) rfl rfl (Nat.le_of_ble_eq_true rfl) dX11_readsNumber_149 (fun H locs hP hD hS => ?_)
                    have hP : va_P D vwCl [(m0, .inr (11, [.ref p0, .ref p1, .int i2, .ref p3, .int (nI tn), .ref p5, .int (nI ((q9 + k) + 1)), .int i7, .int i8, .int i9, .ref p10, .int 0, .ref p12, .ref p13, .ref p14, .int i15, .ref p16, .ref p17, .int i18, .ref p19, .ref p20, .ref p21, .ref p22, .int i23, .int i24, .ref p25, .ref p26, .ref p27, .ref p28, .ref p29, .ref p30, .ref p31, .ref p32])), (p3, .inl (cI, 120, .inl tx)), (p10, .inl (cI, 3, .inl fg))] H := hP
                    have hD : va_D A [(m0, .inr (11, [.ref p0, .ref p1, .int i2, .ref p3, .int (nI tn), .ref p5, .int (nI ((q9 + k) + 1)), .int i7, .int i8, .int i9, .ref p10, .int 0, .ref p12, .ref p13, .ref p14, .int i15, .ref p16, .ref p17, .int i18, .ref p19, .ref p20, .ref p21, .ref p22, .int i23, .int i24, .ref p25, .ref p26, .ref p27, .ref p28, .ref p29, .ref p30, .ref p31, .ref p32])), (p3, .inl (cI, 120, .inl tx)), (p10, .inl (cI, 3, .inl fg))] := hD
                    refine lv_iinc (v := nI (k + 1)) (lv' := [(4, .int (nI (k + 1))), (3, .int (((10 * x85_3) + (tx (q9 + k))) - 48)), (0, .ref m0), (1, .int (nI i)), (2, .int 1)]) hx hb dX11_readsNumber_152 hl (k := 4) rfl (ft_inc k) (by decide) rfl (fun ls hl => ?_)
                    refine lv_goto (tgt := 85) hx hb dX11_readsNumber_155 (by decide) ?_
                    exact ih85 (k + 1) (((10 * x85_3) + (tx (q9 + k))) - 48) (nI (k + 1)) (nI ((q9 + k) + 1)) (by omega) (by omega) (by intro t ht; rcases Nat.lt_succ_iff_lt_or_eq.mp ht with q | q; exact hall t q; subst q; exact ⟨c99n, hlo⟩) (by omega) (by rw [ex85_3]; rfl) (by first | rfl | assumption) (by rfl) _ _ hP hD hS ls (lv_sub hl [2, 3, 4, 1, 0] rfl)
          exact lp85 _ 0 0 0 (nI (sp + 1)) (Nat.lt_succ_self _) (by omega) (by intro t ht; exact absurd ht (Nat.not_lt_zero t)) (by omega) (by rfl) (by rfl) (by rw [hq9]) _ _ hP hD hS ls (lv_sub hl [3, 4, 2, 1, 0] rfl)
        · have hng : ftNg tx tn sp := ⟨c51n, c65⟩
          have hq8 : ftNq tx tn sp = sp + 1 + 1 := ftNq_t hng
          refine lv_iconst (v := (-1)) hx hb dX11_readsNumber_68 (by decide) ?_
          refine lv_istore_n (lv' := [(2, .int (-1)), (0, .ref m0), (1, .int (nI i))]) hx hb dX11_readsNumber_69 rfl hl (by decide) rfl (fun ls hl => ?_)
          refine lv_aload_n hx hb dX11_readsNumber_70 rfl (lv_at hl 1 rfl) ?_
          refine lv_dup hx hb dX11_readsNumber_71 rfl ?_
          refine va_get (D := D) (ci := 11) (v := .int (nI (sp + 1))) (C := RX11) (T := TX11) (N := 33) hx hb hts (by decide +kernel) hown hK hP 0 rfl rfl 6 (by decide) (hts (.fieldLink RX11 100 "FiberTraceModel" "spot" "I") (by decide +kernel)) (fun _ h9 => h9) rfl dX11_readsNumber_72 ?_
          refine lv_iconst (v := 1) hx hb dX11_readsNumber_75 (by decide) ?_
          refine lv_iadd hx hb dX11_readsNumber_76 ?_
          refine ft_top (y := nI ((sp + 1) + 1)) (ft_addN (sp + 1) 1) ?_
          refine va_put (D := D) (ci := 11) (v := .int (nI ((sp + 1) + 1))) (ty := .int) (C := RX11) (T := TX11) (N := 33) hx hb hts (by decide +kernel) tyX11 tyX11_ok nmX11 hown hK hP hD hS 0 rfl rfl 6 (by decide) (hts (.fieldLink RX11 100 "FiberTraceModel" "spot" "I") (by decide +kernel)) (fun _ h9 => h9) rfl (by decide +kernel) rfl rfl (Nat.le_of_ble_eq_true rfl) dX11_readsNumber_77 (fun H locs hP hD hS => ?_)
          have hP : va_P D vwCl [(m0, .inr (11, [.ref p0, .ref p1, .int i2, .ref p3, .int (nI tn), .ref p5, .int (nI ((sp + 1) + 1)), .int i7, .int i8, .int i9, .ref p10, .int 0, .ref p12, .ref p13, .ref p14, .int i15, .ref p16, .ref p17, .int i18, .ref p19, .ref p20, .ref p21, .ref p22, .int i23, .int i24, .ref p25, .ref p26, .ref p27, .ref p28, .ref p29, .ref p30, .ref p31, .ref p32])), (p3, .inl (cI, 120, .inl tx)), (p10, .inl (cI, 3, .inl fg))] H := hP
          have hD : va_D A [(m0, .inr (11, [.ref p0, .ref p1, .int i2, .ref p3, .int (nI tn), .ref p5, .int (nI ((sp + 1) + 1)), .int i7, .int i8, .int i9, .ref p10, .int 0, .ref p12, .ref p13, .ref p14, .int i15, .ref p16, .ref p17, .int i18, .ref p19, .ref p20, .ref p21, .ref p22, .int i23, .int i24, .ref p25, .ref p26, .ref p27, .ref p28, .ref p29, .ref p30, .ref p31, .ref p32])), (p3, .inl (cI, 120, .inl tx)), (p10, .inl (cI, 3, .inl fg))] := hD
          obtain ⟨q9, hq9⟩ : ∃ q9, q9 = (sp + 1) + 1 := ⟨_, rfl⟩
          have hqq : ftNq tx tn sp = q9 := by rw [hq9]; exact hq8
          have hqn : q9 ≤ tn := by omega
          refine lv_iconst (v := 0) hx hb dX11_readsNumber_80 (by decide) ?_
          refine lv_istore_n (lv' := [(3, .int 0), (2, .int (-1)), (0, .ref m0), (1, .int (nI i))]) hx hb dX11_readsNumber_81 rfl hl (by decide) rfl (fun ls hl => ?_)
          refine lv_iconst (v := 0) hx hb dX11_readsNumber_82 (by decide) ?_
          refine lv_istore (lv' := [(4, .int 0), (3, .int 0), (2, .int (-1)), (0, .ref m0), (1, .int (nI i))]) hx hb dX11_readsNumber_83 hl (by decide) rfl (fun ls hl => ?_)
          have lp85 : ∀ (n85 : Nat) (k : Nat) (x85_3 : Int32) (x85_4 : Int32) (g85_m0_6 : Int32), 5 - k < n85 → (k ≤ 5) → (∀ t, t < k → ftDp tx tn q9 t) → (q9 + k ≤ tn) → x85_3 = ftDg tx q9 k → x85_4 = nI k → g85_m0_6 = nI (q9 + k) → ∀ (H : Heap) (locs : List Loc), va_P D vwCl [(m0, .inr (11, [.ref p0, .ref p1, .int i2, .ref p3, .int (nI tn), .ref p5, .int g85_m0_6, .int i7, .int i8, .int i9, .ref p10, .int 0, .ref p12, .ref p13, .ref p14, .int i15, .ref p16, .ref p17, .int i18, .ref p19, .ref p20, .ref p21, .ref p22, .int i23, .int i24, .ref p25, .ref p26, .ref p27, .ref p28, .ref p29, .ref p30, .ref p31, .ref p32])), (p3, .inl (cI, 120, .inl tx)), (p10, .inl (cI, 3, .inl fg))] H → va_D A [(m0, .inr (11, [.ref p0, .ref p1, .int i2, .ref p3, .int (nI tn), .ref p5, .int g85_m0_6, .int i7, .int i8, .int i9, .ref p10, .int 0, .ref p12, .ref p13, .ref p14, .int i15, .ref p16, .ref p17, .int i18, .ref p19, .ref p20, .ref p21, .ref p22, .int i23, .int i24, .ref p25, .ref p26, .ref p27, .ref p28, .ref p29, .ref p30, .ref p31, .ref p32])), (p3, .inl (cI, 120, .inl tx)), (p10, .inl (cI, 3, .inl fg))] → va_S A s.heap H locs → ∀ ls : Array Slot, lv_has ls 5 [(0, .ref m0), (1, .int (nI i)), (2, .int (-1)), (3, .int x85_3), (4, .int x85_4)] → W p l e (headSpec wsX11_readsNumber { frames := 1, cells := 0, slots := 0, locals := 25 }).room s m ([.ref m0, .int (nI i)] : List Value).toArray below meth c H locs 0 0 (MQ below (ftQv D [(m0, .inr (11, [.ref p0, .ref p1, .int i2, .ref p3, .int (nI tn), .ref p5, .int (nI sp), .int i7, .int i8, .int i9, .ref p10, .int i11, .ref p12, .ref p13, .ref p14, .int i15, .ref p16, .ref p17, .int i18, .ref p19, .ref p20, .ref p21, .ref p22, .int i23, .int i24, .ref p25, .ref p26, .ref p27, .ref p28, .ref p29, .ref p30, .ref p31, .ref p32])), (p3, .inl (cI, 120, .inl tx)), (p10, .inl (cI, 3, .inl fg))] [(m0, .inr (11, [.ref p0, .ref p1, .int i2, .ref p3, .int (nI tn), .ref p5, .int (nI (ftNe tx tn sp)), .int i7, .int i8, .int i9, .ref p10, .int (ftB (ftNok tx tn sp)), .ref p12, .ref p13, .ref p14, .int i15, .ref p16, .ref p17, .int i18, .ref p19, .ref p20, .ref p21, .ref p22, .int i23, .int i24, .ref p25, .ref p26, .ref p27, .ref p28, .ref p29, .ref p30, .ref p31, .ref p32])), (p3, .inl (cI, 120, .inl tx)), (p10, .inl (cI, 3, .inl (ftNf tx tn sp i fg)))] s.heap.size) ([.ref m0, .int (nI i)] : List Value).toArray s 0 0 A) (F0 m 85 ls []) := by
            intro n85
            induction n85 with
            | zero =>
              intro k x85_3 x85_4 g85_m0_6 hm85
              exact absurd hm85 (Nat.not_lt_zero _)
            | succ n85 ih85 =>
              intro k x85_3 x85_4 g85_m0_6 hm85 hk5 hall hqk ex85_3 ex85_4 eg85_m0_6 H locs hP hD hS ls hl
              subst ex85_4
              subst eg85_m0_6
              refine lv_iload hx hb dX11_readsNumber_85 (lv_at hl 4 rfl) ?_
              refine lv_iconst (v := 5) hx hb dX11_readsNumber_87 (by decide) ?_
              refine lv_icmp_ge (tgt := 158) hx hb dX11_readsNumber_88 (by decide) (fun c88 => ?_) (fun c88 => ?_)
              · have c88n : 5 ≤ k := ft_leN (by omega) (by omega) c88
                have hm : ftNd tx tn q9 = k := ftIni_of (by omega) hall (fun h => absurd h (by omega))
                refine lv_aload_n hx hb dX11_readsNumber_158 rfl (lv_at hl 0 rfl) ?_
                refine va_get (D := D) (ci := 11) (v := .ref p10) (C := RX11) (T := TX11) (N := 33) hx hb hts (by decide +kernel) hown hK hP 0 rfl rfl 10 (by decide) (hts (.fieldLink RX11 22 "FiberTraceModel" "figured" "[I") (by decide +kernel)) (fun _ h9 => h9) rfl dX11_readsNumber_159 ?_
                refine lv_iload_n hx hb dX11_readsNumber_162 rfl (lv_at hl 1 rfl) ?_
                refine lv_iload_n hx hb dX11_readsNumber_163 rfl (lv_at hl 2 rfl) ?_
                refine lv_iload_n hx hb dX11_readsNumber_164 rfl (lv_at hl 3 rfl) ?_
                refine lv_imul hx hb dX11_readsNumber_165 ?_
                refine va_iast hx hb hK hP hD hS 2 0 rfl rfl (vp_in_nI (by omega) (by omega)) dX11_readsNumber_166 (fun H locs hP hD hS => ?_)
                rw [nI_clamp (show i < 2 ^ 31 by omega)] at hP hD
                have hP : va_P D vwCl [(m0, .inr (11, [.ref p0, .ref p1, .int i2, .ref p3, .int (nI tn), .ref p5, .int (nI (q9 + k)), .int i7, .int i8, .int i9, .ref p10, .int 0, .ref p12, .ref p13, .ref p14, .int i15, .ref p16, .ref p17, .int i18, .ref p19, .ref p20, .ref p21, .ref p22, .int i23, .int i24, .ref p25, .ref p26, .ref p27, .ref p28, .ref p29, .ref p30, .ref p31, .ref p32])), (p3, .inl (cI, 120, .inl tx)), (p10, .inl (cI, 3, .inl (upd fg i ((-1) * x85_3))))] H := hP
                have hD : va_D A [(m0, .inr (11, [.ref p0, .ref p1, .int i2, .ref p3, .int (nI tn), .ref p5, .int (nI (q9 + k)), .int i7, .int i8, .int i9, .ref p10, .int 0, .ref p12, .ref p13, .ref p14, .int i15, .ref p16, .ref p17, .int i18, .ref p19, .ref p20, .ref p21, .ref p22, .int i23, .int i24, .ref p25, .ref p26, .ref p27, .ref p28, .ref p29, .ref p30, .ref p31, .ref p32])), (p3, .inl (cI, 120, .inl tx)), (p10, .inl (cI, 3, .inl (upd fg i ((-1) * x85_3))))] := hD
                refine lv_aload_n hx hb dX11_readsNumber_167 rfl (lv_at hl 0 rfl) ?_
                refine lv_iload hx hb dX11_readsNumber_168 (lv_at hl 4 rfl) ?_
                refine lv_if_le (tgt := 177) hx hb dX11_readsNumber_170 (by decide) (fun c170 => ?_) (fun c170 => ?_)
                · have c170n : k ≤ 0 := ft_leN (by omega) (by omega) c170
                  have hok9 : ftB (ftNok tx tn sp) = 0 := ftB_f (fun q => by have q2 := q.2; rw [hqq, hm] at q2; omega)
                  refine lv_iconst (v := 0) hx hb dX11_readsNumber_177 (by decide) ?_
                  refine va_put (D := D) (ci := 11) (v := .int 0) (ty := .boolean) (C := RX11) (T := TX11) (N := 33) hx hb hts (by decide +kernel) tyX11 tyX11_ok nmX11 hown hK hP hD hS 0 rfl rfl 11 (by decide) (hts (.fieldLink RX11 114 "FiberTraceModel" "isFigured" "Z") (by decide +kernel)) (fun _ h9 => h9) rfl (by decide +kernel) (by first | rfl | exact ftB_nar) rfl (Nat.le_of_ble_eq_true rfl) dX11_readsNumber_178 (fun H locs hP hD hS => ?_)
                  have hP : va_P D vwCl [(m0, .inr (11, [.ref p0, .ref p1, .int i2, .ref p3, .int (nI tn), .ref p5, .int (nI (q9 + k)), .int i7, .int i8, .int i9, .ref p10, .int 0, .ref p12, .ref p13, .ref p14, .int i15, .ref p16, .ref p17, .int i18, .ref p19, .ref p20, .ref p21, .ref p22, .int i23, .int i24, .ref p25, .ref p26, .ref p27, .ref p28, .ref p29, .ref p30, .ref p31, .ref p32])), (p3, .inl (cI, 120, .inl tx)), (p10, .inl (cI, 3, .inl (upd fg i ((-1) * x85_3))))] H := hP
                  have hD : va_D A [(m0, .inr (11, [.ref p0, .ref p1, .int i2, .ref p3, .int (nI tn), .ref p5, .int (nI (q9 + k)), .int i7, .int i8, .int i9, .ref p10, .int 0, .ref p12, .ref p13, .ref p14, .int i15, .ref p16, .ref p17, .int i18, .ref p19, .ref p20, .ref p21, .ref p22, .int i23, .int i24, .ref p25, .ref p26, .ref p27, .ref p28, .ref p29, .ref p30, .ref p31, .ref p32])), (p3, .inl (cI, 120, .inl tx)), (p10, .inl (cI, 3, .inl (upd fg i ((-1) * x85_3))))] := hD
                  have hw9 : ([(m0, .inr (11, [.ref p0, .ref p1, .int i2, .ref p3, .int (nI tn), .ref p5, .int (nI (q9 + k)), .int i7, .int i8, .int i9, .ref p10, .int 0, .ref p12, .ref p13, .ref p14, .int i15, .ref p16, .ref p17, .int i18, .ref p19, .ref p20, .ref p21, .ref p22, .int i23, .int i24, .ref p25, .ref p26, .ref p27, .ref p28, .ref p29, .ref p30, .ref p31, .ref p32])), (p3, .inl (cI, 120, .inl tx)), (p10, .inl (cI, 3, .inl (upd fg i ((-1) * x85_3))))] : va_W) = [(m0, .inr (11, [.ref p0, .ref p1, .int i2, .ref p3, .int (nI tn), .ref p5, .int (nI (ftNe tx tn sp)), .int i7, .int i8, .int i9, .ref p10, .int (ftB (ftNok tx tn sp)), .ref p12, .ref p13, .ref p14, .int i15, .ref p16, .ref p17, .int i18, .ref p19, .ref p20, .ref p21, .ref p22, .int i23, .int i24, .ref p25, .ref p26, .ref p27, .ref p28, .ref p29, .ref p30, .ref p31, .ref p32])), (p3, .inl (cI, 120, .inl tx)), (p10, .inl (cI, 3, .inl (ftNf tx tn sp i fg)))] := by rw [ftNe_t hsp, ftNf_t hsp, hok9, hqq, hm]; first | (rw [ftNv_t hng, hqq, hm, ex85_3]; done) | (rw [ftNv_f hng, hqq, hm, ex85_3]; done)
                  rw [hw9] at hP hD
                  exact W.vret hx hb hr (fun t ht hW => ⟨⟨(), rfl, trivial, by rw [ht]; exact hP, by rw [hAe]; exact hD⟩, by rw [hAe]; exact hS.F ht⟩) hS.2.2 dX11_readsNumber_181
                · have c170n : 0 < k := ft_nleN (by omega) (by omega) c170
                  have hok9 : ftB (ftNok tx tn sp) = 1 := ftB_t ⟨hsp, by rw [hqq, hm]; omega⟩
                  refine lv_iconst (v := 1) hx hb dX11_readsNumber_173 (by decide) ?_
                  refine lv_goto (tgt := 178) hx hb dX11_readsNumber_174 (by decide) ?_
                  refine va_put (D := D) (ci := 11) (v := .int 1) (ty := .boolean) (C := RX11) (T := TX11) (N := 33) hx hb hts (by decide +kernel) tyX11 tyX11_ok nmX11 hown hK hP hD hS 0 rfl rfl 11 (by decide) (hts (.fieldLink RX11 114 "FiberTraceModel" "isFigured" "Z") (by decide +kernel)) (fun _ h9 => h9) rfl (by decide +kernel) (by first | rfl | exact ftB_nar) rfl (Nat.le_of_ble_eq_true rfl) dX11_readsNumber_178 (fun H locs hP hD hS => ?_)
                  have hP : va_P D vwCl [(m0, .inr (11, [.ref p0, .ref p1, .int i2, .ref p3, .int (nI tn), .ref p5, .int (nI (q9 + k)), .int i7, .int i8, .int i9, .ref p10, .int 1, .ref p12, .ref p13, .ref p14, .int i15, .ref p16, .ref p17, .int i18, .ref p19, .ref p20, .ref p21, .ref p22, .int i23, .int i24, .ref p25, .ref p26, .ref p27, .ref p28, .ref p29, .ref p30, .ref p31, .ref p32])), (p3, .inl (cI, 120, .inl tx)), (p10, .inl (cI, 3, .inl (upd fg i ((-1) * x85_3))))] H := hP
                  have hD : va_D A [(m0, .inr (11, [.ref p0, .ref p1, .int i2, .ref p3, .int (nI tn), .ref p5, .int (nI (q9 + k)), .int i7, .int i8, .int i9, .ref p10, .int 1, .ref p12, .ref p13, .ref p14, .int i15, .ref p16, .ref p17, .int i18, .ref p19, .ref p20, .ref p21, .ref p22, .int i23, .int i24, .ref p25, .ref p26, .ref p27, .ref p28, .ref p29, .ref p30, .ref p31, .ref p32])), (p3, .inl (cI, 120, .inl tx)), (p10, .inl (cI, 3, .inl (upd fg i ((-1) * x85_3))))] := hD
                  have hw9 : ([(m0, .inr (11, [.ref p0, .ref p1, .int i2, .ref p3, .int (nI tn), .ref p5, .int (nI (q9 + k)), .int i7, .int i8, .int i9, .ref p10, .int 1, .ref p12, .ref p13, .ref p14, .int i15, .ref p16, .ref p17, .int i18, .ref p19, .ref p20, .ref p21, .ref p22, .int i23, .int i24, .ref p25, .ref p26, .ref p27, .ref p28, .ref p29, .ref p30, .ref p31, .ref p32])), (p3, .inl (cI, 120, .inl tx)), (p10, .inl (cI, 3, .inl (upd fg i ((-1) * x85_3))))] : va_W) = [(m0, .inr (11, [.ref p0, .ref p1, .int i2, .ref p3, .int (nI tn), .ref p5, .int (nI (ftNe tx tn sp)), .int i7, .int i8, .int i9, .ref p10, .int (ftB (ftNok tx tn sp)), .ref p12, .ref p13, .ref p14, .int i15, .ref p16, .ref p17, .int i18, .ref p19, .ref p20, .ref p21, .ref p22, .int i23, .int i24, .ref p25, .ref p26, .ref p27, .ref p28, .ref p29, .ref p30, .ref p31, .ref p32])), (p3, .inl (cI, 120, .inl tx)), (p10, .inl (cI, 3, .inl (ftNf tx tn sp i fg)))] := by rw [ftNe_t hsp, ftNf_t hsp, hok9, hqq, hm]; first | (rw [ftNv_t hng, hqq, hm, ex85_3]; done) | (rw [ftNv_f hng, hqq, hm, ex85_3]; done)
                  rw [hw9] at hP hD
                  exact W.vret hx hb hr (fun t ht hW => ⟨⟨(), rfl, trivial, by rw [ht]; exact hP, by rw [hAe]; exact hD⟩, by rw [hAe]; exact hS.F ht⟩) hS.2.2 dX11_readsNumber_181
              · have c88n : k < 5 := ft_nleN (by omega) (by omega) c88
                refine lv_aload_n hx hb dX11_readsNumber_91 rfl (lv_at hl 0 rfl) ?_
                refine va_get (D := D) (ci := 11) (v := .int (nI (q9 + k))) (C := RX11) (T := TX11) (N := 33) hx hb hts (by decide +kernel) hown hK hP 0 rfl rfl 6 (by decide) (hts (.fieldLink RX11 100 "FiberTraceModel" "spot" "I") (by decide +kernel)) (fun _ h9 => h9) rfl dX11_readsNumber_92 ?_
                refine lv_aload_n hx hb dX11_readsNumber_95 rfl (lv_at hl 0 rfl) ?_
                refine va_get (D := D) (ci := 11) (v := .int (nI tn)) (C := RX11) (T := TX11) (N := 33) hx hb hts (by decide +kernel) hown hK hP 0 rfl rfl 4 (by decide) (hts (.fieldLink RX11 96 "FiberTraceModel" "length" "I") (by decide +kernel)) (fun _ h9 => h9) rfl dX11_readsNumber_96 ?_
                refine lv_icmp_ge (tgt := 158) hx hb dX11_readsNumber_99 (by decide) (fun c99 => ?_) (fun c99 => ?_)
                · have c99n : tn ≤ (q9 + k) := ft_leN (by omega) (by omega) c99
                  have hm : ftNd tx tn q9 = k := ftIni_of (by omega) hall (fun _ q => absurd q.1 (by omega))
                  refine lv_aload_n hx hb dX11_readsNumber_158 rfl (lv_at hl 0 rfl) ?_
                  refine va_get (D := D) (ci := 11) (v := .ref p10) (C := RX11) (T := TX11) (N := 33) hx hb hts (by decide +kernel) hown hK hP 0 rfl rfl 10 (by decide) (hts (.fieldLink RX11 22 "FiberTraceModel" "figured" "[I") (by decide +kernel)) (fun _ h9 => h9) rfl dX11_readsNumber_159 ?_
                  refine lv_iload_n hx hb dX11_readsNumber_162 rfl (lv_at hl 1 rfl) ?_
                  refine lv_iload_n hx hb dX11_readsNumber_163 rfl (lv_at hl 2 rfl) ?_
                  refine lv_iload_n hx hb dX11_readsNumber_164 rfl (lv_at hl 3 rfl) ?_
                  refine lv_imul hx hb dX11_readsNumber_165 ?_
                  refine va_iast hx hb hK hP hD hS 2 0 rfl rfl (vp_in_nI (by omega) (by omega)) dX11_readsNumber_166 (fun H locs hP hD hS => ?_)
                  rw [nI_clamp (show i < 2 ^ 31 by omega)] at hP hD
                  have hP : va_P D vwCl [(m0, .inr (11, [.ref p0, .ref p1, .int i2, .ref p3, .int (nI tn), .ref p5, .int (nI (q9 + k)), .int i7, .int i8, .int i9, .ref p10, .int 0, .ref p12, .ref p13, .ref p14, .int i15, .ref p16, .ref p17, .int i18, .ref p19, .ref p20, .ref p21, .ref p22, .int i23, .int i24, .ref p25, .ref p26, .ref p27, .ref p28, .ref p29, .ref p30, .ref p31, .ref p32])), (p3, .inl (cI, 120, .inl tx)), (p10, .inl (cI, 3, .inl (upd fg i ((-1) * x85_3))))] H := hP
                  have hD : va_D A [(m0, .inr (11, [.ref p0, .ref p1, .int i2, .ref p3, .int (nI tn), .ref p5, .int (nI (q9 + k)), .int i7, .int i8, .int i9, .ref p10, .int 0, .ref p12, .ref p13, .ref p14, .int i15, .ref p16, .ref p17, .int i18, .ref p19, .ref p20, .ref p21, .ref p22, .int i23, .int i24, .ref p25, .ref p26, .ref p27, .ref p28, .ref p29, .ref p30, .ref p31, .ref p32])), (p3, .inl (cI, 120, .inl tx)), (p10, .inl (cI, 3, .inl (upd fg i ((-1) * x85_3))))] := hD
                  refine lv_aload_n hx hb dX11_readsNumber_167 rfl (lv_at hl 0 rfl) ?_
                  refine lv_iload hx hb dX11_readsNumber_168 (lv_at hl 4 rfl) ?_
                  refine lv_if_le (tgt := 177) hx hb dX11_readsNumber_170 (by decide) (fun c170 => ?_) (fun c170 => ?_)
                  · have c170n : k ≤ 0 := ft_leN (by omega) (by omega) c170
                    have hok9 : ftB (ftNok tx tn sp) = 0 := ftB_f (fun q => by have q2 := q.2; rw [hqq, hm] at q2; omega)
                    refine lv_iconst (v := 0) hx hb dX11_readsNumber_177 (by decide) ?_
                    refine va_put (D := D) (ci := 11) (v := .int 0) (ty := .boolean) (C := RX11) (T := TX11) (N := 33) hx hb hts (by decide +kernel) tyX11 tyX11_ok nmX11 hown hK hP hD hS 0 rfl rfl 11 (by decide) (hts (.fieldLink RX11 114 "FiberTraceModel" "isFigured" "Z") (by decide +kernel)) (fun _ h9 => h9) rfl (by decide +kernel) (by first | rfl | exact ftB_nar) rfl (Nat.le_of_ble_eq_true rfl) dX11_readsNumber_178 (fun H locs hP hD hS => ?_)
                    have hP : va_P D vwCl [(m0, .inr (11, [.ref p0, .ref p1, .int i2, .ref p3, .int (nI tn), .ref p5, .int (nI (q9 + k)), .int i7, .int i8, .int i9, .ref p10, .int 0, .ref p12, .ref p13, .ref p14, .int i15, .ref p16, .ref p17, .int i18, .ref p19, .ref p20, .ref p21, .ref p22, .int i23, .int i24, .ref p25, .ref p26, .ref p27, .ref p28, .ref p29, .ref p30, .ref p31, .ref p32])), (p3, .inl (cI, 120, .inl tx)), (p10, .inl (cI, 3, .inl (upd fg i ((-1) * x85_3))))] H := hP
                    have hD : va_D A [(m0, .inr (11, [.ref p0, .ref p1, .int i2, .ref p3, .int (nI tn), .ref p5, .int (nI (q9 + k)), .int i7, .int i8, .int i9, .ref p10, .int 0, .ref p12, .ref p13, .ref p14, .int i15, .ref p16, .ref p17, .int i18, .ref p19, .ref p20, .ref p21, .ref p22, .int i23, .int i24, .ref p25, .ref p26, .ref p27, .ref p28, .ref p29, .ref p30, .ref p31, .ref p32])), (p3, .inl (cI, 120, .inl tx)), (p10, .inl (cI, 3, .inl (upd fg i ((-1) * x85_3))))] := hD
                    have hw9 : ([(m0, .inr (11, [.ref p0, .ref p1, .int i2, .ref p3, .int (nI tn), .ref p5, .int (nI (q9 + k)), .int i7, .int i8, .int i9, .ref p10, .int 0, .ref p12, .ref p13, .ref p14, .int i15, .ref p16, .ref p17, .int i18, .ref p19, .ref p20, .ref p21, .ref p22, .int i23, .int i24, .ref p25, .ref p26, .ref p27, .ref p28, .ref p29, .ref p30, .ref p31, .ref p32])), (p3, .inl (cI, 120, .inl tx)), (p10, .inl (cI, 3, .inl (upd fg i ((-1) * x85_3))))] : va_W) = [(m0, .inr (11, [.ref p0, .ref p1, .int i2, .ref p3, .int (nI tn), .ref p5, .int (nI (ftNe tx tn sp)), .int i7, .int i8, .int i9, .ref p10, .int (ftB (ftNok tx tn sp)), .ref p12, .ref p13, .ref p14, .int i15, .ref p16, .ref p17, .int i18, .ref p19, .ref p20, .ref p21, .ref p22, .int i23, .int i24, .ref p25, .ref p26, .ref p27, .ref p28, .ref p29, .ref p30, .ref p31, .ref p32])), (p3, .inl (cI, 120, .inl tx)), (p10, .inl (cI, 3, .inl (ftNf tx tn sp i fg)))] := by rw [ftNe_t hsp, ftNf_t hsp, hok9, hqq, hm]; first | (rw [ftNv_t hng, hqq, hm, ex85_3]; done) | (rw [ftNv_f hng, hqq, hm, ex85_3]; done)
                    rw [hw9] at hP hD
                    exact W.vret hx hb hr (fun t ht hW => ⟨⟨(), rfl, trivial, by rw [ht]; exact hP, by rw [hAe]; exact hD⟩, by rw [hAe]; exact hS.F ht⟩) hS.2.2 dX11_readsNumber_181
                  · have c170n : 0 < k := ft_nleN (by omega) (by omega) c170
                    have hok9 : ftB (ftNok tx tn sp) = 1 := ftB_t ⟨hsp, by rw [hqq, hm]; omega⟩
                    refine lv_iconst (v := 1) hx hb dX11_readsNumber_173 (by decide) ?_
                    refine lv_goto (tgt := 178) hx hb dX11_readsNumber_174 (by decide) ?_
                    refine va_put (D := D) (ci := 11) (v := .int 1) (ty := .boolean) (C := RX11) (T := TX11) (N := 33) hx hb hts (by decide +kernel) tyX11 tyX11_ok nmX11 hown hK hP hD hS 0 rfl rfl 11 (by decide) (hts (.fieldLink RX11 114 "FiberTraceModel" "isFigured" "Z") (by decide +kernel)) (fun _ h9 => h9) rfl (by decide +kernel) (by first | rfl | exact ftB_nar) rfl (Nat.le_of_ble_eq_true rfl) dX11_readsNumber_178 (fun H locs hP hD hS => ?_)
                    have hP : va_P D vwCl [(m0, .inr (11, [.ref p0, .ref p1, .int i2, .ref p3, .int (nI tn), .ref p5, .int (nI (q9 + k)), .int i7, .int i8, .int i9, .ref p10, .int 1, .ref p12, .ref p13, .ref p14, .int i15, .ref p16, .ref p17, .int i18, .ref p19, .ref p20, .ref p21, .ref p22, .int i23, .int i24, .ref p25, .ref p26, .ref p27, .ref p28, .ref p29, .ref p30, .ref p31, .ref p32])), (p3, .inl (cI, 120, .inl tx)), (p10, .inl (cI, 3, .inl (upd fg i ((-1) * x85_3))))] H := hP
                    have hD : va_D A [(m0, .inr (11, [.ref p0, .ref p1, .int i2, .ref p3, .int (nI tn), .ref p5, .int (nI (q9 + k)), .int i7, .int i8, .int i9, .ref p10, .int 1, .ref p12, .ref p13, .ref p14, .int i15, .ref p16, .ref p17, .int i18, .ref p19, .ref p20, .ref p21, .ref p22, .int i23, .int i24, .ref p25, .ref p26, .ref p27, .ref p28, .ref p29, .ref p30, .ref p31, .ref p32])), (p3, .inl (cI, 120, .inl tx)), (p10, .inl (cI, 3, .inl (upd fg i ((-1) * x85_3))))] := hD
                    have hw9 : ([(m0, .inr (11, [.ref p0, .ref p1, .int i2, .ref p3, .int (nI tn), .ref p5, .int (nI (q9 + k)), .int i7, .int i8, .int i9, .ref p10, .int 1, .ref p12, .ref p13, .ref p14, .int i15, .ref p16, .ref p17, .int i18, .ref p19, .ref p20, .ref p21, .ref p22, .int i23, .int i24, .ref p25, .ref p26, .ref p27, .ref p28, .ref p29, .ref p30, .ref p31, .ref p32])), (p3, .inl (cI, 120, .inl tx)), (p10, .inl (cI, 3, .inl (upd fg i ((-1) * x85_3))))] : va_W) = [(m0, .inr (11, [.ref p0, .ref p1, .int i2, .ref p3, .int (nI tn), .ref p5, .int (nI (ftNe tx tn sp)), .int i7, .int i8, .int i9, .ref p10, .int (ftB (ftNok tx tn sp)), .ref p12, .ref p13, .ref p14, .int i15, .ref p16, .ref p17, .int i18, .ref p19, .ref p20, .ref p21, .ref p22, .int i23, .int i24, .ref p25, .ref p26, .ref p27, .ref p28, .ref p29, .ref p30, .ref p31, .ref p32])), (p3, .inl (cI, 120, .inl tx)), (p10, .inl (cI, 3, .inl (ftNf tx tn sp i fg)))] := by rw [ftNe_t hsp, ftNf_t hsp, hok9, hqq, hm]; first | (rw [ftNv_t hng, hqq, hm, ex85_3]; done) | (rw [ftNv_f hng, hqq, hm, ex85_3]; done)
                    rw [hw9] at hP hD
                    exact W.vret hx hb hr (fun t ht hW => ⟨⟨(), rfl, trivial, by rw [ht]; exact hP, by rw [hAe]; exact hD⟩, by rw [hAe]; exact hS.F ht⟩) hS.2.2 dX11_readsNumber_181
                · have c99n : (q9 + k) < tn := ft_nleN (by omega) (by omega) c99
                  refine lv_aload_n hx hb dX11_readsNumber_102 rfl (lv_at hl 0 rfl) ?_
                  refine va_get (D := D) (ci := 11) (v := .ref p3) (C := RX11) (T := TX11) (N := 33) hx hb hts (by decide +kernel) hown hK hP 0 rfl rfl 3 (by decide) (hts (.fieldLink RX11 16 "FiberTraceModel" "text" "[I") (by decide +kernel)) (fun _ h9 => h9) rfl dX11_readsNumber_103 ?_
                  refine lv_aload_n hx hb dX11_readsNumber_106 rfl (lv_at hl 0 rfl) ?_
                  refine va_get (D := D) (ci := 11) (v := .int (nI (q9 + k))) (C := RX11) (T := TX11) (N := 33) hx hb hts (by decide +kernel) hown hK hP 0 rfl rfl 6 (by decide) (hts (.fieldLink RX11 100 "FiberTraceModel" "spot" "I") (by decide +kernel)) (fun _ h9 => h9) rfl dX11_readsNumber_107 ?_
                  refine va_iald hx hb hK hP 1 0 rfl rfl (vp_in_nI (by omega) (by omega)) dX11_readsNumber_110 ?_
                  refine ft_top (y := tx (q9 + k)) (ft_clampN (by omega)) ?_
                  refine lv_i2l (v := (tx (q9 + k)).toInt64) hx hb dX11_readsNumber_111 rfl ?_
                  refine lv_ldc2 (v := 48) hx hb hown (hts (.constantLong RX11 118 48) (by decide +kernel)) dX11_readsNumber_112 ?_
                  refine lv_ldc2 (v := 57) hx hb hown (hts (.constantLong RX11 120 57) (by decide +kernel)) dX11_readsNumber_115 ?_
                  refine ft_csi (r := ftB (48 ≤ ((tx (q9 + k)).toInt64) ∧ ((tx (q9 + k)).toInt64) ≤ 57)) (va_runS (As := [.long ((tx (q9 + k)).toInt64), .long 48, .long 57]) (rest := []) ⟨hx, hb, hml, hown, hts⟩ (c_X11_in l D cI cS ((tx (q9 + k)).toInt64) 48 57) (va_cwS 3 hts gX11_readsNumber_X11_in rfl rfl rfl (by decide +kernel) ⟨Nat.le_of_ble_eq_true rfl, Nat.le_of_ble_eq_true rfl⟩) (ft_preRO hP hKK [] rfl) rfl rfl hl.1 rfl (lv_room (Nat.le_of_ble_eq_true rfl)) dX11_readsNumber_118 ⟨Nat.le_of_ble_eq_true rfl, Nat.le_of_ble_eq_true rfl⟩) ?_
                  refine ft_top (y := ftB (48 ≤ (tx (q9 + k)) ∧ (tx (q9 + k)) ≤ 57)) (ft_in64 (by decide) (by decide)) ?_
                  refine lv_if_eq (tgt := 158) hx hb dX11_readsNumber_121 (by decide) (fun c121 => ?_) (fun c121 => ?_)
                  · replace c121 := ftB_eq c121
                    have hm : ftNd tx tn q9 = k := ftIni_of (by omega) hall (fun _ q => c121 q.2)
                    refine lv_aload_n hx hb dX11_readsNumber_158 rfl (lv_at hl 0 rfl) ?_
                    refine va_get (D := D) (ci := 11) (v := .ref p10) (C := RX11) (T := TX11) (N := 33) hx hb hts (by decide +kernel) hown hK hP 0 rfl rfl 10 (by decide) (hts (.fieldLink RX11 22 "FiberTraceModel" "figured" "[I") (by decide +kernel)) (fun _ h9 => h9) rfl dX11_readsNumber_159 ?_
                    refine lv_iload_n hx hb dX11_readsNumber_162 rfl (lv_at hl 1 rfl) ?_
                    refine lv_iload_n hx hb dX11_readsNumber_163 rfl (lv_at hl 2 rfl) ?_
                    refine lv_iload_n hx hb dX11_readsNumber_164 rfl (lv_at hl 3 rfl) ?_
                    refine lv_imul hx hb dX11_readsNumber_165 ?_
                    refine va_iast hx hb hK hP hD hS 2 0 rfl rfl (vp_in_nI (by omega) (by omega)) dX11_readsNumber_166 (fun H locs hP hD hS => ?_)
                    rw [nI_clamp (show i < 2 ^ 31 by omega)] at hP hD
                    have hP : va_P D vwCl [(m0, .inr (11, [.ref p0, .ref p1, .int i2, .ref p3, .int (nI tn), .ref p5, .int (nI (q9 + k)), .int i7, .int i8, .int i9, .ref p10, .int 0, .ref p12, .ref p13, .ref p14, .int i15, .ref p16, .ref p17, .int i18, .ref p19, .ref p20, .ref p21, .ref p22, .int i23, .int i24, .ref p25, .ref p26, .ref p27, .ref p28, .ref p29, .ref p30, .ref p31, .ref p32])), (p3, .inl (cI, 120, .inl tx)), (p10, .inl (cI, 3, .inl (upd fg i ((-1) * x85_3))))] H := hP
                    have hD : va_D A [(m0, .inr (11, [.ref p0, .ref p1, .int i2, .ref p3, .int (nI tn), .ref p5, .int (nI (q9 + k)), .int i7, .int i8, .int i9, .ref p10, .int 0, .ref p12, .ref p13, .ref p14, .int i15, .ref p16, .ref p17, .int i18, .ref p19, .ref p20, .ref p21, .ref p22, .int i23, .int i24, .ref p25, .ref p26, .ref p27, .ref p28, .ref p29, .ref p30, .ref p31, .ref p32])), (p3, .inl (cI, 120, .inl tx)), (p10, .inl (cI, 3, .inl (upd fg i ((-1) * x85_3))))] := hD
                    refine lv_aload_n hx hb dX11_readsNumber_167 rfl (lv_at hl 0 rfl) ?_
                    refine lv_iload hx hb dX11_readsNumber_168 (lv_at hl 4 rfl) ?_
                    refine lv_if_le (tgt := 177) hx hb dX11_readsNumber_170 (by decide) (fun c170 => ?_) (fun c170 => ?_)
                    · have c170n : k ≤ 0 := ft_leN (by omega) (by omega) c170
                      have hok9 : ftB (ftNok tx tn sp) = 0 := ftB_f (fun q => by have q2 := q.2; rw [hqq, hm] at q2; omega)
                      refine lv_iconst (v := 0) hx hb dX11_readsNumber_177 (by decide) ?_
                      refine va_put (D := D) (ci := 11) (v := .int 0) (ty := .boolean) (C := RX11) (T := TX11) (N := 33) hx hb hts (by decide +kernel) tyX11 tyX11_ok nmX11 hown hK hP hD hS 0 rfl rfl 11 (by decide) (hts (.fieldLink RX11 114 "FiberTraceModel" "isFigured" "Z") (by decide +kernel)) (fun _ h9 => h9) rfl (by decide +kernel) (by first | rfl | exact ftB_nar) rfl (Nat.le_of_ble_eq_true rfl) dX11_readsNumber_178 (fun H locs hP hD hS => ?_)
                      have hP : va_P D vwCl [(m0, .inr (11, [.ref p0, .ref p1, .int i2, .ref p3, .int (nI tn), .ref p5, .int (nI (q9 + k)), .int i7, .int i8, .int i9, .ref p10, .int 0, .ref p12, .ref p13, .ref p14, .int i15, .ref p16, .ref p17, .int i18, .ref p19, .ref p20, .ref p21, .ref p22, .int i23, .int i24, .ref p25, .ref p26, .ref p27, .ref p28, .ref p29, .ref p30, .ref p31, .ref p32])), (p3, .inl (cI, 120, .inl tx)), (p10, .inl (cI, 3, .inl (upd fg i ((-1) * x85_3))))] H := hP
                      have hD : va_D A [(m0, .inr (11, [.ref p0, .ref p1, .int i2, .ref p3, .int (nI tn), .ref p5, .int (nI (q9 + k)), .int i7, .int i8, .int i9, .ref p10, .int 0, .ref p12, .ref p13, .ref p14, .int i15, .ref p16, .ref p17, .int i18, .ref p19, .ref p20, .ref p21, .ref p22, .int i23, .int i24, .ref p25, .ref p26, .ref p27, .ref p28, .ref p29, .ref p30, .ref p31, .ref p32])), (p3, .inl (cI, 120, .inl tx)), (p10, .inl (cI, 3, .inl (upd fg i ((-1) * x85_3))))] := hD
                      have hw9 : ([(m0, .inr (11, [.ref p0, .ref p1, .int i2, .ref p3, .int (nI tn), .ref p5, .int (nI (q9 + k)), .int i7, .int i8, .int i9, .ref p10, .int 0, .ref p12, .ref p13, .ref p14, .int i15, .ref p16, .ref p17, .int i18, .ref p19, .ref p20, .ref p21, .ref p22, .int i23, .int i24, .ref p25, .ref p26, .ref p27, .ref p28, .ref p29, .ref p30, .ref p31, .ref p32])), (p3, .inl (cI, 120, .inl tx)), (p10, .inl (cI, 3, .inl (upd fg i ((-1) * x85_3))))] : va_W) = [(m0, .inr (11, [.ref p0, .ref p1, .int i2, .ref p3, .int (nI tn), .ref p5, .int (nI (ftNe tx tn sp)), .int i7, .int i8, .int i9, .ref p10, .int (ftB (ftNok tx tn sp)), .ref p12, .ref p13, .ref p14, .int i15, .ref p16, .ref p17, .int i18, .ref p19, .ref p20, .ref p21, .ref p22, .int i23, .int i24, .ref p25, .ref p26, .ref p27, .ref p28, .ref p29, .ref p30, .ref p31, .ref p32])), (p3, .inl (cI, 120, .inl tx)), (p10, .inl (cI, 3, .inl (ftNf tx tn sp i fg)))] := by rw [ftNe_t hsp, ftNf_t hsp, hok9, hqq, hm]; first | (rw [ftNv_t hng, hqq, hm, ex85_3]; done) | (rw [ftNv_f hng, hqq, hm, ex85_3]; done)
                      rw [hw9] at hP hD
                      exact W.vret hx hb hr (fun t ht hW => ⟨⟨(), rfl, trivial, by rw [ht]; exact hP, by rw [hAe]; exact hD⟩, by rw [hAe]; exact hS.F ht⟩) hS.2.2 dX11_readsNumber_181
                    · have c170n : 0 < k := ft_nleN (by omega) (by omega) c170
                      have hok9 : ftB (ftNok tx tn sp) = 1 := ftB_t ⟨hsp, by rw [hqq, hm]; omega⟩
                      refine lv_iconst (v := 1) hx hb dX11_readsNumber_173 (by decide) ?_
                      refine lv_goto (tgt := 178) hx hb dX11_readsNumber_174 (by decide) ?_
                      refine va_put (D := D) (ci := 11) (v := .int 1) (ty := .boolean) (C := RX11) (T := TX11) (N := 33) hx hb hts (by decide +kernel) tyX11 tyX11_ok nmX11 hown hK hP hD hS 0 rfl rfl 11 (by decide) (hts (.fieldLink RX11 114 "FiberTraceModel" "isFigured" "Z") (by decide +kernel)) (fun _ h9 => h9) rfl (by decide +kernel) (by first | rfl | exact ftB_nar) rfl (Nat.le_of_ble_eq_true rfl) dX11_readsNumber_178 (fun H locs hP hD hS => ?_)
                      have hP : va_P D vwCl [(m0, .inr (11, [.ref p0, .ref p1, .int i2, .ref p3, .int (nI tn), .ref p5, .int (nI (q9 + k)), .int i7, .int i8, .int i9, .ref p10, .int 1, .ref p12, .ref p13, .ref p14, .int i15, .ref p16, .ref p17, .int i18, .ref p19, .ref p20, .ref p21, .ref p22, .int i23, .int i24, .ref p25, .ref p26, .ref p27, .ref p28, .ref p29, .ref p30, .ref p31, .ref p32])), (p3, .inl (cI, 120, .inl tx)), (p10, .inl (cI, 3, .inl (upd fg i ((-1) * x85_3))))] H := hP
                      have hD : va_D A [(m0, .inr (11, [.ref p0, .ref p1, .int i2, .ref p3, .int (nI tn), .ref p5, .int (nI (q9 + k)), .int i7, .int i8, .int i9, .ref p10, .int 1, .ref p12, .ref p13, .ref p14, .int i15, .ref p16, .ref p17, .int i18, .ref p19, .ref p20, .ref p21, .ref p22, .int i23, .int i24, .ref p25, .ref p26, .ref p27, .ref p28, .ref p29, .ref p30, .ref p31, .ref p32])), (p3, .inl (cI, 120, .inl tx)), (p10, .inl (cI, 3, .inl (upd fg i ((-1) * x85_3))))] := hD
                      have hw9 : ([(m0, .inr (11, [.ref p0, .ref p1, .int i2, .ref p3, .int (nI tn), .ref p5, .int (nI (q9 + k)), .int i7, .int i8, .int i9, .ref p10, .int 1, .ref p12, .ref p13, .ref p14, .int i15, .ref p16, .ref p17, .int i18, .ref p19, .ref p20, .ref p21, .ref p22, .int i23, .int i24, .ref p25, .ref p26, .ref p27, .ref p28, .ref p29, .ref p30, .ref p31, .ref p32])), (p3, .inl (cI, 120, .inl tx)), (p10, .inl (cI, 3, .inl (upd fg i ((-1) * x85_3))))] : va_W) = [(m0, .inr (11, [.ref p0, .ref p1, .int i2, .ref p3, .int (nI tn), .ref p5, .int (nI (ftNe tx tn sp)), .int i7, .int i8, .int i9, .ref p10, .int (ftB (ftNok tx tn sp)), .ref p12, .ref p13, .ref p14, .int i15, .ref p16, .ref p17, .int i18, .ref p19, .ref p20, .ref p21, .ref p22, .int i23, .int i24, .ref p25, .ref p26, .ref p27, .ref p28, .ref p29, .ref p30, .ref p31, .ref p32])), (p3, .inl (cI, 120, .inl tx)), (p10, .inl (cI, 3, .inl (ftNf tx tn sp i fg)))] := by rw [ftNe_t hsp, ftNf_t hsp, hok9, hqq, hm]; first | (rw [ftNv_t hng, hqq, hm, ex85_3]; done) | (rw [ftNv_f hng, hqq, hm, ex85_3]; done)
                      rw [hw9] at hP hD
                      exact W.vret hx hb hr (fun t ht hW => ⟨⟨(), rfl, trivial, by rw [ht]; exact hP, by rw [hAe]; exact hD⟩, by rw [hAe]; exact hS.F ht⟩) hS.2.2 dX11_readsNumber_181
                  · replace c121 := ftB_ne c121
                    have hlo := c121
                    refine lv_bipush (v := 10) hx hb dX11_readsNumber_124 (by decide) ?_
                    refine lv_iload_n hx hb dX11_readsNumber_126 rfl (lv_at hl 3 rfl) ?_
                    refine lv_imul hx hb dX11_readsNumber_127 ?_
                    refine lv_aload_n hx hb dX11_readsNumber_128 rfl (lv_at hl 0 rfl) ?_
                    refine va_get (D := D) (ci := 11) (v := .ref p3) (C := RX11) (T := TX11) (N := 33) hx hb hts (by decide +kernel) hown hK hP 0 rfl rfl 3 (by decide) (hts (.fieldLink RX11 16 "FiberTraceModel" "text" "[I") (by decide +kernel)) (fun _ h9 => h9) rfl dX11_readsNumber_129 ?_
                    refine lv_aload_n hx hb dX11_readsNumber_132 rfl (lv_at hl 0 rfl) ?_
                    refine va_get (D := D) (ci := 11) (v := .int (nI (q9 + k))) (C := RX11) (T := TX11) (N := 33) hx hb hts (by decide +kernel) hown hK hP 0 rfl rfl 6 (by decide) (hts (.fieldLink RX11 100 "FiberTraceModel" "spot" "I") (by decide +kernel)) (fun _ h9 => h9) rfl dX11_readsNumber_133 ?_
                    refine va_iald hx hb hK hP 1 0 rfl rfl (vp_in_nI (by omega) (by omega)) dX11_readsNumber_136 ?_
                    refine ft_top (y := tx (q9 + k)) (ft_clampN (by omega)) ?_
                    refine lv_iadd hx hb dX11_readsNumber_137 ?_
                    refine lv_bipush (v := 48) hx hb dX11_readsNumber_138 (by decide) ?_
                    refine lv_isub hx hb dX11_readsNumber_140 ?_
                    refine lv_istore_n (lv' := [(3, .int (((10 * x85_3) + (tx (q9 + k))) - 48)), (0, .ref m0), (1, .int (nI i)), (2, .int (-1)), (4, .int (nI k))]) hx hb dX11_readsNumber_141 rfl hl (by decide) rfl (fun ls hl => ?_)
                    refine lv_aload_n hx hb dX11_readsNumber_142 rfl (lv_at hl 1 rfl) ?_
                    refine lv_dup hx hb dX11_readsNumber_143 rfl ?_
                    refine va_get (D := D) (ci := 11) (v := .int (nI (q9 + k))) (C := RX11) (T := TX11) (N := 33) hx hb hts (by decide +kernel) hown hK hP 0 rfl rfl 6 (by decide) (hts (.fieldLink RX11 100 "FiberTraceModel" "spot" "I") (by decide +kernel)) (fun _ h9 => h9) rfl dX11_readsNumber_144 ?_
                    refine lv_iconst (v := 1) hx hb dX11_readsNumber_147 (by decide) ?_
                    refine lv_iadd hx hb dX11_readsNumber_148 ?_
                    refine ft_top (y := nI ((q9 + k) + 1)) (ft_addN (q9 + k) 1) ?_
                    refine va_put (D := D) (ci := 11) (v := .int (nI ((q9 + k) + 1))) (ty := .int) (C := RX11) (T := TX11) (N := 33) hx hb hts (by decide +kernel) tyX11 tyX11_ok nmX11 hown hK hP hD hS 0 rfl rfl 6 (by decide) (hts (.fieldLink RX11 100 "FiberTraceModel" "spot" "I") (by decide +kernel)) (fun _ h9 => h9) rfl (by decide +kernel) rfl rfl (Nat.le_of_ble_eq_true rfl) dX11_readsNumber_149 (fun H locs hP hD hS => ?_)
                    have hP : va_P D vwCl [(m0, .inr (11, [.ref p0, .ref p1, .int i2, .ref p3, .int (nI tn), .ref p5, .int (nI ((q9 + k) + 1)), .int i7, .int i8, .int i9, .ref p10, .int 0, .ref p12, .ref p13, .ref p14, .int i15, .ref p16, .ref p17, .int i18, .ref p19, .ref p20, .ref p21, .ref p22, .int i23, .int i24, .ref p25, .ref p26, .ref p27, .ref p28, .ref p29, .ref p30, .ref p31, .ref p32])), (p3, .inl (cI, 120, .inl tx)), (p10, .inl (cI, 3, .inl fg))] H := hP
                    have hD : va_D A [(m0, .inr (11, [.ref p0, .ref p1, .int i2, .ref p3, .int (nI tn), .ref p5, .int (nI ((q9 + k) + 1)), .int i7, .int i8, .int i9, .ref p10, .int 0, .ref p12, .ref p13, .ref p14, .int i15, .ref p16, .ref p17, .int i18, .ref p19, .ref p20, .ref p21, .ref p22, .int i23, .int i24, .ref p25, .ref p26, .ref p27, .ref p28, .ref p29, .ref p30, .ref p31, .ref p32])), (p3, .inl (cI, 120, .inl tx)), (p10, .inl (cI, 3, .inl fg))] := hD
                    refine lv_iinc (v := nI (k + 1)) (lv' := [(4, .int (nI (k + 1))), (3, .int (((10 * x85_3) + (tx (q9 + k))) - 48)), (0, .ref m0), (1, .int (nI i)), (2, .int (-1))]) hx hb dX11_readsNumber_152 hl (k := 4) rfl (ft_inc k) (by decide) rfl (fun ls hl => ?_)
                    refine lv_goto (tgt := 85) hx hb dX11_readsNumber_155 (by decide) ?_
                    exact ih85 (k + 1) (((10 * x85_3) + (tx (q9 + k))) - 48) (nI (k + 1)) (nI ((q9 + k) + 1)) (by omega) (by omega) (by intro t ht; rcases Nat.lt_succ_iff_lt_or_eq.mp ht with q | q; exact hall t q; subst q; exact ⟨c99n, hlo⟩) (by omega) (by rw [ex85_3]; rfl) (by first | rfl | assumption) (by rfl) _ _ hP hD hS ls (lv_sub hl [2, 3, 4, 1, 0] rfl)
          exact lp85 _ 0 0 0 (nI ((sp + 1) + 1)) (Nat.lt_succ_self _) (by omega) (by intro t ht; exact absurd ht (Nat.not_lt_zero t)) (by omega) (by rfl) (by rfl) (by rw [hq9]) _ _ hP hD hS ls (lv_sub hl [3, 4, 2, 1, 0] rfl)
    · have hns : ¬ ftSp tx tn sp := fun q => c27 q.2
      have hw9 : ([(m0, .inr (11, [.ref p0, .ref p1, .int i2, .ref p3, .int (nI tn), .ref p5, .int (nI sp), .int i7, .int i8, .int i9, .ref p10, .int 0, .ref p12, .ref p13, .ref p14, .int i15, .ref p16, .ref p17, .int i18, .ref p19, .ref p20, .ref p21, .ref p22, .int i23, .int i24, .ref p25, .ref p26, .ref p27, .ref p28, .ref p29, .ref p30, .ref p31, .ref p32])), (p3, .inl (cI, 120, .inl tx)), (p10, .inl (cI, 3, .inl fg))] : va_W) = [(m0, .inr (11, [.ref p0, .ref p1, .int i2, .ref p3, .int (nI tn), .ref p5, .int (nI (ftNe tx tn sp)), .int i7, .int i8, .int i9, .ref p10, .int (ftB (ftNok tx tn sp)), .ref p12, .ref p13, .ref p14, .int i15, .ref p16, .ref p17, .int i18, .ref p19, .ref p20, .ref p21, .ref p22, .int i23, .int i24, .ref p25, .ref p26, .ref p27, .ref p28, .ref p29, .ref p30, .ref p31, .ref p32])), (p3, .inl (cI, 120, .inl tx)), (p10, .inl (cI, 3, .inl (ftNf tx tn sp i fg)))] := by rw [ftNe_f hns, ftNf_f hns, ftB_f (fun q : ftNok tx tn sp => hns q.1)]
      rw [hw9] at hP hD
      exact W.vret hx hb hr (fun t ht hW => ⟨⟨(), rfl, trivial, by rw [ht]; exact hP, by rw [hAe]; exact hD⟩, by rw [hAe]; exact hS.F ht⟩) hS.2.2 dX11_readsNumber_30
set_option maxHeartbeats 4000000 in
set_option maxRecDepth 100000 in
theorem c_X11_numbersOf (l : Launch) (D : va_G) (cI cS : ClassId) (x : Int32)  : Met l yX11_numbersOf wsX11_numbersOf ({ frames := 0, cells := 0, slots := 0, locals := 0 }) (ftRO D cI cS [.int x] []) (vp_Si (fun o9 => o9 = nI (ftNs x))) 0 0 (fun _ => False) := by
  refine Met.ofW (cc := cX11_numbersOf) (maxL := 1) (ret := (some .int)) (by decide) rfl ?_
  intro p e s m args below meth c s₁ B hml hv
  obtain ⟨rfl, hP, hKK⟩ := hv
  have hK := hKK.1
  have hx := B.exec
  have hb := B.bytes
  have hr := B.returns
  have hts := atoms_spec (ws := wsX11_numbersOf) B.pre
  have hown : s.vm.findClass RX11 = some m.cls := findClass_of_methodNamed B.named
  have hlocks := B.notSynchronized
  have hP : va_P D vwCl [] s.heap := hP
  have hl := lv_entry ([.int x]) (n := 1) (Nat.le_of_ble_eq_true rfl)
  rw [lg_entry_eq]
  generalize (lg_sl ([.int x]) ++ List.replicate (1 - (lg_sl ([.int x])).length) Slot.unset).toArray = ls at hl ⊢
  have hl : lv_has ls 1 [(0, .int x)] := hl
  refine lv_iload_n hx hb dX11_numbersOf_0 rfl (lv_at hl 0 rfl) ?_
  refine lv_iconst (v := 3) hx hb dX11_numbersOf_1 (by decide) ?_
  refine lv_icmp_ge (tgt := 9) hx hb dX11_numbersOf_2 (by decide) (fun c2 => ?_) (fun c2 => ?_)
  · refine lv_iload_n hx hb dX11_numbersOf_9 rfl (lv_at hl 0 rfl) ?_
    refine lv_iconst (v := 4) hx hb dX11_numbersOf_10 (by decide) ?_
    refine lv_icmp_ne (tgt := 18) hx hb dX11_numbersOf_11 (by decide) (fun c11 => ?_) (fun c11 => ?_)
    · refine lv_iconst (v := 2) hx hb dX11_numbersOf_18 (by decide) ?_
      exact W.iret (v := 2) hx hb hr (fun t ht hW => ⟨2, rfl, (by show (2 : Int32) = nI (ftNs x); unfold ftNs; first | (rw [if_pos (Int32.not_le.mp c2)]; rfl) | (rw [if_neg (Int32.not_lt.mpr c2), if_pos c11]; rfl) | (rw [if_neg (Int32.not_lt.mpr c2), if_neg c11]; rfl)), ht⟩) (fun _ h9 => absurd h9 List.not_mem_nil) dX11_numbersOf_19
    · refine lv_iconst (v := 3) hx hb dX11_numbersOf_14 (by decide) ?_
      refine lv_goto (tgt := 19) hx hb dX11_numbersOf_15 (by decide) ?_
      exact W.iret (v := 3) hx hb hr (fun t ht hW => ⟨3, rfl, (by show (3 : Int32) = nI (ftNs x); unfold ftNs; first | (rw [if_pos (Int32.not_le.mp c2)]; rfl) | (rw [if_neg (Int32.not_lt.mpr c2), if_pos c11]; rfl) | (rw [if_neg (Int32.not_lt.mpr c2), if_neg c11]; rfl)), ht⟩) (fun _ h9 => absurd h9 List.not_mem_nil) dX11_numbersOf_19
  · refine lv_iconst (v := 1) hx hb dX11_numbersOf_5 (by decide) ?_
    refine lv_goto (tgt := 19) hx hb dX11_numbersOf_6 (by decide) ?_
    exact W.iret (v := 1) hx hb hr (fun t ht hW => ⟨1, rfl, (by show (1 : Int32) = nI (ftNs x); unfold ftNs; first | (rw [if_pos (Int32.not_le.mp c2)]; rfl) | (rw [if_neg (Int32.not_lt.mpr c2), if_pos c11]; rfl) | (rw [if_neg (Int32.not_lt.mpr c2), if_neg c11]; rfl)), ht⟩) (fun _ h9 => absurd h9 List.not_mem_nil) dX11_numbersOf_19
set_option maxHeartbeats 4000000 in
set_option maxRecDepth 100000 in
theorem c_X11_isRight (l : Launch) (D : va_G) (cI cS : ClassId) (m0 p0 p1 p3 p5 p10 p12 p13 p14 p16 p17 p19 p20 p21 p22 p25 p26 p27 p28 p29 p30 p31 p32 : Nat) (i2 i4 i6 i7 i8 i9 i11 i15 i18 i23 i24 : Int32) (md fg : Nat → Int32) (wd : Int32) (i : Nat) (hi : i < 3) : Met l yX11_isRight wsX11_isRight ({ frames := 1, cells := 0, slots := 0, locals := 25 }) (ftRO D cI cS [.ref m0, .int wd, .int (nI i)] [(m0, .inr (11, [.ref p0, .ref p1, .int i2, .ref p3, .int i4, .ref p5, .int i6, .int i7, .int i8, .int i9, .ref p10, .int i11, .ref p12, .ref p13, .ref p14, .int i15, .ref p16, .ref p17, .int i18, .ref p19, .ref p20, .ref p21, .ref p22, .int i23, .int i24, .ref p25, .ref p26, .ref p27, .ref p28, .ref p29, .ref p30, .ref p31, .ref p32])), (p5, .inl (cI, 44, .inl md)), (p10, .inl (cI, 3, .inl fg))]) (vp_Si (fun o9 => o9 = ftB (ftRt wd i (fg i) (md 0)))) 0 0 (fun _ => False) := by
  refine Met.ofW (cc := cX11_isRight) (maxL := 4) (ret := (some .boolean)) (by decide) rfl ?_
  intro p e s m args below meth c s₁ B hml hv
  obtain ⟨rfl, hP, hKK⟩ := hv
  have hK := hKK.1
  have hx := B.exec
  have hb := B.bytes
  have hr := B.returns
  have hts := atoms_spec (ws := wsX11_isRight) B.pre
  have hown : s.vm.findClass RX11 = some m.cls := findClass_of_methodNamed B.named
  have hlocks := B.notSynchronized
  have hP : va_P D vwCl [(m0, .inr (11, [.ref p0, .ref p1, .int i2, .ref p3, .int i4, .ref p5, .int i6, .int i7, .int i8, .int i9, .ref p10, .int i11, .ref p12, .ref p13, .ref p14, .int i15, .ref p16, .ref p17, .int i18, .ref p19, .ref p20, .ref p21, .ref p22, .int i23, .int i24, .ref p25, .ref p26, .ref p27, .ref p28, .ref p29, .ref p30, .ref p31, .ref p32])), (p5, .inl (cI, 44, .inl md)), (p10, .inl (cI, 3, .inl fg))] s.heap := hP
  have hl := lv_entry ([.ref m0, .int wd, .int (nI i)]) (n := 4) (Nat.le_of_ble_eq_true rfl)
  rw [lg_entry_eq]
  generalize (lg_sl ([.ref m0, .int wd, .int (nI i)]) ++ List.replicate (4 - (lg_sl ([.ref m0, .int wd, .int (nI i)])).length) Slot.unset).toArray = ls at hl ⊢
  have hl : lv_has ls 4 [(0, .ref m0), (1, .int wd), (2, .int (nI i))] := hl
  refine lv_aload_n hx hb dX11_isRight_0 rfl (lv_at hl 0 rfl) ?_
  refine va_get (D := D) (ci := 11) (v := .ref p10) (C := RX11) (T := TX11) (N := 33) hx hb hts (by decide +kernel) hown hK hP 0 rfl rfl 10 (by decide) (hts (.fieldLink RX11 22 "FiberTraceModel" "figured" "[I") (by decide +kernel)) (fun _ h9 => h9) rfl dX11_isRight_1 ?_
  refine lv_iload_n hx hb dX11_isRight_4 rfl (lv_at hl 2 rfl) ?_
  refine va_iald hx hb hK hP 2 0 rfl rfl (vp_in_nI (by omega) (by omega)) dX11_isRight_5 ?_
  refine ft_top (y := fg i) (ft_clampN (by omega)) ?_
  refine lv_istore_n (lv' := [(3, .int (fg i)), (0, .ref m0), (1, .int wd), (2, .int (nI i))]) hx hb dX11_isRight_6 rfl hl (by decide) rfl (fun ls hl => ?_)
  refine lv_iload_n hx hb dX11_isRight_7 rfl (lv_at hl 2 rfl) ?_
  refine lv_if_ne (tgt := 23) hx hb dX11_isRight_8 (by decide) (fun c8 => ?_) (fun c8 => ?_)
  · refine lv_iload_n hx hb dX11_isRight_23 rfl (lv_at hl 2 rfl) ?_
    refine lv_iconst (v := 1) hx hb dX11_isRight_24 (by decide) ?_
    refine lv_icmp_ne (tgt := 38) hx hb dX11_isRight_25 (by decide) (fun c25 => ?_) (fun c25 => ?_)
    · refine lv_iload_n hx hb dX11_isRight_38 rfl (lv_at hl 2 rfl) ?_
      refine lv_iconst (v := 2) hx hb dX11_isRight_39 (by decide) ?_
      refine lv_icmp_ne (tgt := 53) hx hb dX11_isRight_40 (by decide) (fun c40 => ?_) (fun c40 => ?_)
      · refine lv_iload_n hx hb dX11_isRight_53 rfl (lv_at hl 3 rfl) ?_
        refine lv_if_ne (tgt := 75) hx hb dX11_isRight_54 (by decide) (fun c54 => ?_) (fun c54 => ?_)
        · have c54n : i ≠ 0 := ft_neN (by omega) (by omega) c54
          refine lv_iload_n hx hb dX11_isRight_75 rfl (lv_at hl 3 rfl) ?_
          refine lv_iconst (v := 2) hx hb dX11_isRight_76 (by decide) ?_
          refine lv_icmp_ne (tgt := 92) hx hb dX11_isRight_77 (by decide) (fun c77 => ?_) (fun c77 => ?_)
          · have c77n : i ≠ 2 := ft_neN (by omega) (by omega) c77
            refine lv_iload_n hx hb dX11_isRight_92 rfl (lv_at hl 2 rfl) ?_
            refine lv_iconst (v := 3) hx hb dX11_isRight_93 (by decide) ?_
            refine lv_icmp_ne (tgt := 111) hx hb dX11_isRight_94 (by decide) (fun c94 => ?_) (fun c94 => ?_)
            · refine lv_iload_n hx hb dX11_isRight_111 rfl (lv_at hl 0 rfl) ?_
              refine lv_i2l (v := (fg i).toInt64) hx hb dX11_isRight_112 rfl ?_
              refine lv_lconst (v := 0) hx hb dX11_isRight_113 (by decide) ?_
              refine lv_iload_n hx hb dX11_isRight_114 rfl (lv_at hl 2 rfl) ?_
              refine lv_iconst (v := 4) hx hb dX11_isRight_115 (by decide) ?_
              refine lv_icmp_ne (tgt := 125) hx hb dX11_isRight_116 (by decide) (fun c116 => ?_) (fun c116 => ?_)
              · refine lv_ldc2 (v := 50) hx hb hown (hts (.constantLong RX11 122 50) (by decide +kernel)) dX11_isRight_125 ?_
                refine ft_csi (r := ftB (0 ≤ ((fg i).toInt64) ∧ ((fg i).toInt64) ≤ 50)) (va_runS (As := [.long ((fg i).toInt64), .long 0, .long 50]) (rest := []) ⟨hx, hb, hml, hown, hts⟩ (c_X11_in l D cI cS ((fg i).toInt64) 0 50) (va_cwS 3 hts gX11_isRight_X11_in rfl rfl rfl (by decide +kernel) ⟨Nat.le_of_ble_eq_true rfl, Nat.le_of_ble_eq_true rfl⟩) (ft_preRO hP hKK [] rfl) rfl rfl hl.1 rfl (lv_room (Nat.le_of_ble_eq_true rfl)) dX11_isRight_128 ⟨Nat.le_of_ble_eq_true rfl, Nat.le_of_ble_eq_true rfl⟩) ?_
                refine ft_top (y := ftB (0 ≤ (fg i) ∧ (fg i) ≤ 50)) (ft_in64 (by decide) (by decide)) ?_
                exact W.zret (v := ftB (0 ≤ (fg i) ∧ (fg i) ≤ 50)) hx hb hr (by first | rfl | exact ftB_nar) (fun t ht hW => ⟨ftB (0 ≤ (fg i) ∧ (fg i) ≤ 50), rfl, (by show (ftB (0 ≤ (fg i) ∧ (fg i) ≤ 50) : Int32) = ftB (ftRt wd i (fg i) (md 0)); rw [ftRt]; first | (rw [if_pos c8]; done) | (rw [if_neg c8, if_pos c25]; done) | (rw [if_neg c8, if_neg c25, if_pos c40]; done) | (rw [if_neg c8, if_neg c25, if_neg c40, if_pos c54n]; done) | (rw [if_neg c8, if_neg c25, if_neg c40, if_neg c54n, if_pos c77n]; done) | (rw [if_neg c8, if_neg c25, if_neg c40, if_neg c54n, if_neg c77n, if_pos c94]; done) | (rw [if_neg c8, if_neg c25, if_neg c40, if_neg c54n, if_neg c77n, if_neg c94, if_pos c116]; done) | (rw [if_neg c8, if_neg c25, if_neg c40, if_neg c54n, if_neg c77n, if_neg c94, if_neg c116]; done)), ht⟩) (fun _ h9 => absurd h9 List.not_mem_nil) dX11_isRight_131
              · refine lv_ldc2 (v := 5000) hx hb hown (hts (.constantLong RX11 130 5000) (by decide +kernel)) dX11_isRight_119 ?_
                refine lv_goto (tgt := 128) hx hb dX11_isRight_122 (by decide) ?_
                refine ft_csi (r := ftB (0 ≤ ((fg i).toInt64) ∧ ((fg i).toInt64) ≤ 5000)) (va_runS (As := [.long ((fg i).toInt64), .long 0, .long 5000]) (rest := []) ⟨hx, hb, hml, hown, hts⟩ (c_X11_in l D cI cS ((fg i).toInt64) 0 5000) (va_cwS 3 hts gX11_isRight_X11_in rfl rfl rfl (by decide +kernel) ⟨Nat.le_of_ble_eq_true rfl, Nat.le_of_ble_eq_true rfl⟩) (ft_preRO hP hKK [] rfl) rfl rfl hl.1 rfl (lv_room (Nat.le_of_ble_eq_true rfl)) dX11_isRight_128 ⟨Nat.le_of_ble_eq_true rfl, Nat.le_of_ble_eq_true rfl⟩) ?_
                refine ft_top (y := ftB (0 ≤ (fg i) ∧ (fg i) ≤ 5000)) (ft_in64 (by decide) (by decide)) ?_
                exact W.zret (v := ftB (0 ≤ (fg i) ∧ (fg i) ≤ 5000)) hx hb hr (by first | rfl | exact ftB_nar) (fun t ht hW => ⟨ftB (0 ≤ (fg i) ∧ (fg i) ≤ 5000), rfl, (by show (ftB (0 ≤ (fg i) ∧ (fg i) ≤ 5000) : Int32) = ftB (ftRt wd i (fg i) (md 0)); rw [ftRt]; first | (rw [if_pos c8]; done) | (rw [if_neg c8, if_pos c25]; done) | (rw [if_neg c8, if_neg c25, if_pos c40]; done) | (rw [if_neg c8, if_neg c25, if_neg c40, if_pos c54n]; done) | (rw [if_neg c8, if_neg c25, if_neg c40, if_neg c54n, if_pos c77n]; done) | (rw [if_neg c8, if_neg c25, if_neg c40, if_neg c54n, if_neg c77n, if_pos c94]; done) | (rw [if_neg c8, if_neg c25, if_neg c40, if_neg c54n, if_neg c77n, if_neg c94, if_pos c116]; done) | (rw [if_neg c8, if_neg c25, if_neg c40, if_neg c54n, if_neg c77n, if_neg c94, if_neg c116]; done)), ht⟩) (fun _ h9 => absurd h9 List.not_mem_nil) dX11_isRight_131
            · refine lv_iload_n hx hb dX11_isRight_97 rfl (lv_at hl 0 rfl) ?_
              refine lv_i2l (v := (fg i).toInt64) hx hb dX11_isRight_98 rfl ?_
              refine lv_ldc2 (v := (-500)) hx hb hown (hts (.constantLong RX11 128 (-500)) (by decide +kernel)) dX11_isRight_99 ?_
              refine lv_ldc2 (v := 5000) hx hb hown (hts (.constantLong RX11 130 5000) (by decide +kernel)) dX11_isRight_102 ?_
              refine ft_csi (r := ftB ((-500) ≤ ((fg i).toInt64) ∧ ((fg i).toInt64) ≤ 5000)) (va_runS (As := [.long ((fg i).toInt64), .long (-500), .long 5000]) (rest := []) ⟨hx, hb, hml, hown, hts⟩ (c_X11_in l D cI cS ((fg i).toInt64) (-500) 5000) (va_cwS 3 hts gX11_isRight_X11_in rfl rfl rfl (by decide +kernel) ⟨Nat.le_of_ble_eq_true rfl, Nat.le_of_ble_eq_true rfl⟩) (ft_preRO hP hKK [] rfl) rfl rfl hl.1 rfl (lv_room (Nat.le_of_ble_eq_true rfl)) dX11_isRight_105 ⟨Nat.le_of_ble_eq_true rfl, Nat.le_of_ble_eq_true rfl⟩) ?_
              refine ft_top (y := ftB ((-500) ≤ (fg i) ∧ (fg i) ≤ 5000)) (ft_in64 (by decide) (by decide)) ?_
              refine lv_goto (tgt := 131) hx hb dX11_isRight_108 (by decide) ?_
              exact W.zret (v := ftB ((-500) ≤ (fg i) ∧ (fg i) ≤ 5000)) hx hb hr (by first | rfl | exact ftB_nar) (fun t ht hW => ⟨ftB ((-500) ≤ (fg i) ∧ (fg i) ≤ 5000), rfl, (by show (ftB ((-500) ≤ (fg i) ∧ (fg i) ≤ 5000) : Int32) = ftB (ftRt wd i (fg i) (md 0)); rw [ftRt]; first | (rw [if_pos c8]; done) | (rw [if_neg c8, if_pos c25]; done) | (rw [if_neg c8, if_neg c25, if_pos c40]; done) | (rw [if_neg c8, if_neg c25, if_neg c40, if_pos c54n]; done) | (rw [if_neg c8, if_neg c25, if_neg c40, if_neg c54n, if_pos c77n]; done) | (rw [if_neg c8, if_neg c25, if_neg c40, if_neg c54n, if_neg c77n, if_pos c94]; done) | (rw [if_neg c8, if_neg c25, if_neg c40, if_neg c54n, if_neg c77n, if_neg c94, if_pos c116]; done) | (rw [if_neg c8, if_neg c25, if_neg c40, if_neg c54n, if_neg c77n, if_neg c94, if_neg c116]; done)), ht⟩) (fun _ h9 => absurd h9 List.not_mem_nil) dX11_isRight_131
          · have c77n : i = 2 := ft_eqN (by omega) (by omega) c77
            refine lv_iload_n hx hb dX11_isRight_80 rfl (lv_at hl 0 rfl) ?_
            refine lv_i2l (v := (fg i).toInt64) hx hb dX11_isRight_81 rfl ?_
            refine lv_lconst (v := 1) hx hb dX11_isRight_82 (by decide) ?_
            refine lv_ldc2 (v := 20000) hx hb hown (hts (.constantLong RX11 126 20000) (by decide +kernel)) dX11_isRight_83 ?_
            refine ft_csi (r := ftB (1 ≤ ((fg i).toInt64) ∧ ((fg i).toInt64) ≤ 20000)) (va_runS (As := [.long ((fg i).toInt64), .long 1, .long 20000]) (rest := []) ⟨hx, hb, hml, hown, hts⟩ (c_X11_in l D cI cS ((fg i).toInt64) 1 20000) (va_cwS 3 hts gX11_isRight_X11_in rfl rfl rfl (by decide +kernel) ⟨Nat.le_of_ble_eq_true rfl, Nat.le_of_ble_eq_true rfl⟩) (ft_preRO hP hKK [] rfl) rfl rfl hl.1 rfl (lv_room (Nat.le_of_ble_eq_true rfl)) dX11_isRight_86 ⟨Nat.le_of_ble_eq_true rfl, Nat.le_of_ble_eq_true rfl⟩) ?_
            refine ft_top (y := ftB (1 ≤ (fg i) ∧ (fg i) ≤ 20000)) (ft_in64 (by decide) (by decide)) ?_
            refine lv_goto (tgt := 131) hx hb dX11_isRight_89 (by decide) ?_
            exact W.zret (v := ftB (1 ≤ (fg i) ∧ (fg i) ≤ 20000)) hx hb hr (by first | rfl | exact ftB_nar) (fun t ht hW => ⟨ftB (1 ≤ (fg i) ∧ (fg i) ≤ 20000), rfl, (by show (ftB (1 ≤ (fg i) ∧ (fg i) ≤ 20000) : Int32) = ftB (ftRt wd i (fg i) (md 0)); rw [ftRt]; first | (rw [if_pos c8]; done) | (rw [if_neg c8, if_pos c25]; done) | (rw [if_neg c8, if_neg c25, if_pos c40]; done) | (rw [if_neg c8, if_neg c25, if_neg c40, if_pos c54n]; done) | (rw [if_neg c8, if_neg c25, if_neg c40, if_neg c54n, if_pos c77n]; done) | (rw [if_neg c8, if_neg c25, if_neg c40, if_neg c54n, if_neg c77n, if_pos c94]; done) | (rw [if_neg c8, if_neg c25, if_neg c40, if_neg c54n, if_neg c77n, if_neg c94, if_pos c116]; done) | (rw [if_neg c8, if_neg c25, if_neg c40, if_neg c54n, if_neg c77n, if_neg c94, if_neg c116]; done)), ht⟩) (fun _ h9 => absurd h9 List.not_mem_nil) dX11_isRight_131
        · have c54n : i = 0 := ft_eqN (by omega) (by omega) c54
          refine lv_iload_n hx hb dX11_isRight_57 rfl (lv_at hl 0 rfl) ?_
          refine lv_i2l (v := (fg i).toInt64) hx hb dX11_isRight_58 rfl ?_
          refine lv_lconst (v := 1) hx hb dX11_isRight_59 (by decide) ?_
          refine lv_aload_n hx hb dX11_isRight_60 rfl (lv_at hl 1 rfl) ?_
          refine va_get (D := D) (ci := 11) (v := .ref p5) (C := RX11) (T := TX11) (N := 33) hx hb hts (by decide +kernel) hown hK hP 0 rfl rfl 5 (by decide) (hts (.fieldLink RX11 19 "FiberTraceModel" "made" "[I") (by decide +kernel)) (fun _ h9 => h9) rfl dX11_isRight_61 ?_
          refine lv_iconst (v := 0) hx hb dX11_isRight_64 (by decide) ?_
          refine va_iald hx hb hK hP 1 0 rfl rfl (vp_in_nI (n := 0) (by omega) (by omega)) dX11_isRight_65 ?_
          refine ft_top (y := md 0) rfl ?_
          refine lv_iconst (v := 1) hx hb dX11_isRight_66 (by decide) ?_
          refine lv_isub hx hb dX11_isRight_67 ?_
          refine lv_i2l (v := ((md 0) - 1).toInt64) hx hb dX11_isRight_68 rfl ?_
          refine ft_csi (r := ftB (1 ≤ ((fg i).toInt64) ∧ ((fg i).toInt64) ≤ (((md 0) - 1).toInt64))) (va_runS (As := [.long ((fg i).toInt64), .long 1, .long (((md 0) - 1).toInt64)]) (rest := []) ⟨hx, hb, hml, hown, hts⟩ (c_X11_in l D cI cS ((fg i).toInt64) 1 (((md 0) - 1).toInt64)) (va_cwS 3 hts gX11_isRight_X11_in rfl rfl rfl (by decide +kernel) ⟨Nat.le_of_ble_eq_true rfl, Nat.le_of_ble_eq_true rfl⟩) (ft_preRO hP hKK [] rfl) rfl rfl hl.1 rfl (lv_room (Nat.le_of_ble_eq_true rfl)) dX11_isRight_69 ⟨Nat.le_of_ble_eq_true rfl, Nat.le_of_ble_eq_true rfl⟩) ?_
          refine ft_top (y := ftB (1 ≤ (fg i) ∧ (fg i) ≤ ((md 0) - 1))) (ft_in64 (by decide) (Int32.toInt_toInt64 _)) ?_
          refine lv_goto (tgt := 131) hx hb dX11_isRight_72 (by decide) ?_
          exact W.zret (v := ftB (1 ≤ (fg i) ∧ (fg i) ≤ ((md 0) - 1))) hx hb hr (by first | rfl | exact ftB_nar) (fun t ht hW => ⟨ftB (1 ≤ (fg i) ∧ (fg i) ≤ ((md 0) - 1)), rfl, (by show (ftB (1 ≤ (fg i) ∧ (fg i) ≤ ((md 0) - 1)) : Int32) = ftB (ftRt wd i (fg i) (md 0)); rw [ftRt]; first | (rw [if_pos c8]; done) | (rw [if_neg c8, if_pos c25]; done) | (rw [if_neg c8, if_neg c25, if_pos c40]; done) | (rw [if_neg c8, if_neg c25, if_neg c40, if_pos c54n]; done) | (rw [if_neg c8, if_neg c25, if_neg c40, if_neg c54n, if_pos c77n]; done) | (rw [if_neg c8, if_neg c25, if_neg c40, if_neg c54n, if_neg c77n, if_pos c94]; done) | (rw [if_neg c8, if_neg c25, if_neg c40, if_neg c54n, if_neg c77n, if_neg c94, if_pos c116]; done) | (rw [if_neg c8, if_neg c25, if_neg c40, if_neg c54n, if_neg c77n, if_neg c94, if_neg c116]; done)), ht⟩) (fun _ h9 => absurd h9 List.not_mem_nil) dX11_isRight_131
      · refine lv_iload_n hx hb dX11_isRight_43 rfl (lv_at hl 0 rfl) ?_
        refine lv_i2l (v := (fg i).toInt64) hx hb dX11_isRight_44 rfl ?_
        refine lv_lconst (v := 0) hx hb dX11_isRight_45 (by decide) ?_
        refine lv_ldc2 (v := 20000) hx hb hown (hts (.constantLong RX11 126 20000) (by decide +kernel)) dX11_isRight_46 ?_
        refine ft_csi (r := ftB (0 ≤ ((fg i).toInt64) ∧ ((fg i).toInt64) ≤ 20000)) (va_runS (As := [.long ((fg i).toInt64), .long 0, .long 20000]) (rest := []) ⟨hx, hb, hml, hown, hts⟩ (c_X11_in l D cI cS ((fg i).toInt64) 0 20000) (va_cwS 3 hts gX11_isRight_X11_in rfl rfl rfl (by decide +kernel) ⟨Nat.le_of_ble_eq_true rfl, Nat.le_of_ble_eq_true rfl⟩) (ft_preRO hP hKK [] rfl) rfl rfl hl.1 rfl (lv_room (Nat.le_of_ble_eq_true rfl)) dX11_isRight_49 ⟨Nat.le_of_ble_eq_true rfl, Nat.le_of_ble_eq_true rfl⟩) ?_
        refine ft_top (y := ftB (0 ≤ (fg i) ∧ (fg i) ≤ 20000)) (ft_in64 (by decide) (by decide)) ?_
        exact W.zret (v := ftB (0 ≤ (fg i) ∧ (fg i) ≤ 20000)) hx hb hr (by first | rfl | exact ftB_nar) (fun t ht hW => ⟨ftB (0 ≤ (fg i) ∧ (fg i) ≤ 20000), rfl, (by show (ftB (0 ≤ (fg i) ∧ (fg i) ≤ 20000) : Int32) = ftB (ftRt wd i (fg i) (md 0)); rw [ftRt]; first | (rw [if_pos c8]; done) | (rw [if_neg c8, if_pos c25]; done) | (rw [if_neg c8, if_neg c25, if_pos c40]; done) | (rw [if_neg c8, if_neg c25, if_neg c40, if_pos c54n]; done) | (rw [if_neg c8, if_neg c25, if_neg c40, if_neg c54n, if_pos c77n]; done) | (rw [if_neg c8, if_neg c25, if_neg c40, if_neg c54n, if_neg c77n, if_pos c94]; done) | (rw [if_neg c8, if_neg c25, if_neg c40, if_neg c54n, if_neg c77n, if_neg c94, if_pos c116]; done) | (rw [if_neg c8, if_neg c25, if_neg c40, if_neg c54n, if_neg c77n, if_neg c94, if_neg c116]; done)), ht⟩) (fun _ h9 => absurd h9 List.not_mem_nil) dX11_isRight_52
    · refine lv_iload_n hx hb dX11_isRight_28 rfl (lv_at hl 0 rfl) ?_
      refine lv_i2l (v := (fg i).toInt64) hx hb dX11_isRight_29 rfl ?_
      refine lv_lconst (v := 0) hx hb dX11_isRight_30 (by decide) ?_
      refine lv_ldc2 (v := 50) hx hb hown (hts (.constantLong RX11 122 50) (by decide +kernel)) dX11_isRight_31 ?_
      refine ft_csi (r := ftB (0 ≤ ((fg i).toInt64) ∧ ((fg i).toInt64) ≤ 50)) (va_runS (As := [.long ((fg i).toInt64), .long 0, .long 50]) (rest := []) ⟨hx, hb, hml, hown, hts⟩ (c_X11_in l D cI cS ((fg i).toInt64) 0 50) (va_cwS 3 hts gX11_isRight_X11_in rfl rfl rfl (by decide +kernel) ⟨Nat.le_of_ble_eq_true rfl, Nat.le_of_ble_eq_true rfl⟩) (ft_preRO hP hKK [] rfl) rfl rfl hl.1 rfl (lv_room (Nat.le_of_ble_eq_true rfl)) dX11_isRight_34 ⟨Nat.le_of_ble_eq_true rfl, Nat.le_of_ble_eq_true rfl⟩) ?_
      refine ft_top (y := ftB (0 ≤ (fg i) ∧ (fg i) ≤ 50)) (ft_in64 (by decide) (by decide)) ?_
      exact W.zret (v := ftB (0 ≤ (fg i) ∧ (fg i) ≤ 50)) hx hb hr (by first | rfl | exact ftB_nar) (fun t ht hW => ⟨ftB (0 ≤ (fg i) ∧ (fg i) ≤ 50), rfl, (by show (ftB (0 ≤ (fg i) ∧ (fg i) ≤ 50) : Int32) = ftB (ftRt wd i (fg i) (md 0)); rw [ftRt]; first | (rw [if_pos c8]; done) | (rw [if_neg c8, if_pos c25]; done) | (rw [if_neg c8, if_neg c25, if_pos c40]; done) | (rw [if_neg c8, if_neg c25, if_neg c40, if_pos c54n]; done) | (rw [if_neg c8, if_neg c25, if_neg c40, if_neg c54n, if_pos c77n]; done) | (rw [if_neg c8, if_neg c25, if_neg c40, if_neg c54n, if_neg c77n, if_pos c94]; done) | (rw [if_neg c8, if_neg c25, if_neg c40, if_neg c54n, if_neg c77n, if_neg c94, if_pos c116]; done) | (rw [if_neg c8, if_neg c25, if_neg c40, if_neg c54n, if_neg c77n, if_neg c94, if_neg c116]; done)), ht⟩) (fun _ h9 => absurd h9 List.not_mem_nil) dX11_isRight_37
  · refine lv_iload_n hx hb dX11_isRight_11 rfl (lv_at hl 0 rfl) ?_
    refine lv_i2l (v := (fg i).toInt64) hx hb dX11_isRight_12 rfl ?_
    refine lv_ldc2 (v := 50) hx hb hown (hts (.constantLong RX11 122 50) (by decide +kernel)) dX11_isRight_13 ?_
    refine lv_ldc2 (v := 400) hx hb hown (hts (.constantLong RX11 124 400) (by decide +kernel)) dX11_isRight_16 ?_
    refine ft_csi (r := ftB (50 ≤ ((fg i).toInt64) ∧ ((fg i).toInt64) ≤ 400)) (va_runS (As := [.long ((fg i).toInt64), .long 50, .long 400]) (rest := []) ⟨hx, hb, hml, hown, hts⟩ (c_X11_in l D cI cS ((fg i).toInt64) 50 400) (va_cwS 3 hts gX11_isRight_X11_in rfl rfl rfl (by decide +kernel) ⟨Nat.le_of_ble_eq_true rfl, Nat.le_of_ble_eq_true rfl⟩) (ft_preRO hP hKK [] rfl) rfl rfl hl.1 rfl (lv_room (Nat.le_of_ble_eq_true rfl)) dX11_isRight_19 ⟨Nat.le_of_ble_eq_true rfl, Nat.le_of_ble_eq_true rfl⟩) ?_
    refine ft_top (y := ftB (50 ≤ (fg i) ∧ (fg i) ≤ 400)) (ft_in64 (by decide) (by decide)) ?_
    exact W.zret (v := ftB (50 ≤ (fg i) ∧ (fg i) ≤ 400)) hx hb hr (by first | rfl | exact ftB_nar) (fun t ht hW => ⟨ftB (50 ≤ (fg i) ∧ (fg i) ≤ 400), rfl, (by show (ftB (50 ≤ (fg i) ∧ (fg i) ≤ 400) : Int32) = ftB (ftRt wd i (fg i) (md 0)); rw [ftRt]; first | (rw [if_pos c8]; done) | (rw [if_neg c8, if_pos c25]; done) | (rw [if_neg c8, if_neg c25, if_pos c40]; done) | (rw [if_neg c8, if_neg c25, if_neg c40, if_pos c54n]; done) | (rw [if_neg c8, if_neg c25, if_neg c40, if_neg c54n, if_pos c77n]; done) | (rw [if_neg c8, if_neg c25, if_neg c40, if_neg c54n, if_neg c77n, if_pos c94]; done) | (rw [if_neg c8, if_neg c25, if_neg c40, if_neg c54n, if_neg c77n, if_neg c94, if_pos c116]; done) | (rw [if_neg c8, if_neg c25, if_neg c40, if_neg c54n, if_neg c77n, if_neg c94, if_neg c116]; done)), ht⟩) (fun _ h9 => absurd h9 List.not_mem_nil) dX11_isRight_22
set_option maxHeartbeats 4000000 in
set_option maxRecDepth 100000 in
theorem c_X11_hasMadePlace (l : Launch) (D : va_G) (cI cS : ClassId) (m0 p0 p1 p3 p5 p10 p12 p13 p14 p16 p17 p19 p20 p21 p22 p25 p26 p27 p28 p29 p30 p31 p32 : Nat) (i2 i4 i6 i7 i8 i9 i11 i15 i18 i23 i24 : Int32) (md : Nat → Int32) (x : Int32) (n : Nat) (hw3 : md 3 = nI n) (hn : n ≤ 10) : Met l yX11_hasMadePlace wsX11_hasMadePlace ({ frames := 0, cells := 0, slots := 0, locals := 0 }) (ftRO D cI cS [.ref m0, .int x] [(m0, .inr (11, [.ref p0, .ref p1, .int i2, .ref p3, .int i4, .ref p5, .int i6, .int i7, .int i8, .int i9, .ref p10, .int i11, .ref p12, .ref p13, .ref p14, .int i15, .ref p16, .ref p17, .int i18, .ref p19, .ref p20, .ref p21, .ref p22, .int i23, .int i24, .ref p25, .ref p26, .ref p27, .ref p28, .ref p29, .ref p30, .ref p31, .ref p32])), (p5, .inl (cI, 44, .inl md))]) (vp_Si (fun o9 => o9 = ftB (∃ t, t < n ∧ md (4 + 4 * t + 1) = x))) 0 0 (fun _ => False) := by
  refine Met.ofW (cc := cX11_hasMadePlace) (maxL := 4) (ret := (some .boolean)) (by decide) rfl ?_
  intro p e s m args below meth c s₁ B hml hv
  obtain ⟨rfl, hP, hKK⟩ := hv
  have hK := hKK.1
  have hx := B.exec
  have hb := B.bytes
  have hr := B.returns
  have hts := atoms_spec (ws := wsX11_hasMadePlace) B.pre
  have hown : s.vm.findClass RX11 = some m.cls := findClass_of_methodNamed B.named
  have hlocks := B.notSynchronized
  have hP : va_P D vwCl [(m0, .inr (11, [.ref p0, .ref p1, .int i2, .ref p3, .int i4, .ref p5, .int i6, .int i7, .int i8, .int i9, .ref p10, .int i11, .ref p12, .ref p13, .ref p14, .int i15, .ref p16, .ref p17, .int i18, .ref p19, .ref p20, .ref p21, .ref p22, .int i23, .int i24, .ref p25, .ref p26, .ref p27, .ref p28, .ref p29, .ref p30, .ref p31, .ref p32])), (p5, .inl (cI, 44, .inl md))] s.heap := hP
  have hl := lv_entry ([.ref m0, .int x]) (n := 4) (Nat.le_of_ble_eq_true rfl)
  rw [lg_entry_eq]
  generalize (lg_sl ([.ref m0, .int x]) ++ List.replicate (4 - (lg_sl ([.ref m0, .int x])).length) Slot.unset).toArray = ls at hl ⊢
  have hl : lv_has ls 4 [(0, .ref m0), (1, .int x)] := hl
  refine lv_iconst (v := 0) hx hb dX11_hasMadePlace_0 (by decide) ?_
  refine lv_istore_n (lv' := [(2, .int 0), (0, .ref m0), (1, .int x)]) hx hb dX11_hasMadePlace_1 rfl hl (by decide) rfl (fun ls hl => ?_)
  refine lv_iconst (v := 0) hx hb dX11_hasMadePlace_2 (by decide) ?_
  refine lv_istore_n (lv' := [(3, .int 0), (2, .int 0), (0, .ref m0), (1, .int x)]) hx hb dX11_hasMadePlace_3 rfl hl (by decide) rfl (fun ls hl => ?_)
  have lp4 : ∀ (n4 : Nat) (k : Nat) (x4_2 : Int32) (x4_3 : Int32), n - k < n4 → (k ≤ n) → x4_2 = ftB (∃ t, t < k ∧ md (4 + 4 * t + 1) = x) → x4_3 = nI k → ∀ ls : Array Slot, lv_has ls 4 [(0, .ref m0), (1, .int x), (2, .int x4_2), (3, .int x4_3)] → W p l e (headSpec wsX11_hasMadePlace { frames := 0, cells := 0, slots := 0, locals := 0 }).room s m ([.ref m0, .int x] : List Value).toArray below meth c s.heap [] 0 0 (MQ below (vp_Si (fun o9 => o9 = ftB (∃ t, t < n ∧ md (4 + 4 * t + 1) = x))) ([.ref m0, .int x] : List Value).toArray s 0 0 (fun _ => False)) (F0 m 4 ls []) := by
    intro n4
    induction n4 with
    | zero =>
      intro k x4_2 x4_3  hm4
      exact absurd hm4 (Nat.not_lt_zero _)
    | succ n4 ih4 =>
      intro k x4_2 x4_3  hm4 hkn ex4_2 ex4_3  ls hl
      subst ex4_3
      refine lv_iload_n hx hb dX11_hasMadePlace_4 rfl (lv_at hl 3 rfl) ?_
      refine lv_aload_n hx hb dX11_hasMadePlace_5 rfl (lv_at hl 0 rfl) ?_
      refine va_get (D := D) (ci := 11) (v := .ref p5) (C := RX11) (T := TX11) (N := 33) hx hb hts (by decide +kernel) hown hK hP 0 rfl rfl 5 (by decide) (hts (.fieldLink RX11 19 "FiberTraceModel" "made" "[I") (by decide +kernel)) (fun _ h9 => h9) rfl dX11_hasMadePlace_6 ?_
      refine lv_iconst (v := 3) hx hb dX11_hasMadePlace_9 (by decide) ?_
      refine va_iald hx hb hK hP 1 0 rfl rfl (vp_in_nI (n := 3) (by omega) (by omega)) dX11_hasMadePlace_10 ?_
      refine ft_top (y := md 3) rfl ?_
      refine ft_top (y := nI n) hw3 ?_
      refine lv_icmp_ge (tgt := 46) hx hb dX11_hasMadePlace_11 (by decide) (fun c11 => ?_) (fun c11 => ?_)
      · have c11n : n ≤ k := ft_leN (by omega) (by omega) c11
        refine lv_iload_n hx hb dX11_hasMadePlace_46 rfl (lv_at hl 2 rfl) ?_
        exact W.zret (v := x4_2) hx hb hr (by rw [ex4_2]; exact ftB_nar) (fun t ht hW => ⟨x4_2, rfl, (by show (x4_2 : Int32) = ftB (∃ t, t < n ∧ md (4 + 4 * t + 1) = x); (obtain rfl : k = n := by omega); exact ex4_2), ht⟩) (fun _ h9 => absurd h9 List.not_mem_nil) dX11_hasMadePlace_47
      · have c11n : k < n := ft_nleN (by omega) (by omega) c11
        refine lv_iload_n hx hb dX11_hasMadePlace_14 rfl (lv_at hl 2 rfl) ?_
        refine lv_if_ne (tgt := 34) hx hb dX11_hasMadePlace_15 (by decide) (fun c15 => ?_) (fun c15 => ?_)
        · obtain ⟨t9, h8, h9⟩ := ftB_ne (by rw [← ex4_2]; exact c15)
          have h7 : ftB (∃ t, t < k + 1 ∧ md (4 + 4 * t + 1) = x) = 1 := ftB_t ⟨t9, by omega, h9⟩
          refine lv_iconst (v := 1) hx hb dX11_hasMadePlace_34 (by decide) ?_
          refine lv_goto (tgt := 39) hx hb dX11_hasMadePlace_35 (by decide) ?_
          refine lv_istore_n (lv' := [(2, .int 1), (0, .ref m0), (1, .int x), (3, .int (nI k))]) hx hb dX11_hasMadePlace_39 rfl hl (by decide) rfl (fun ls hl => ?_)
          refine lv_iinc (v := nI (k + 1)) (lv' := [(3, .int (nI (k + 1))), (2, .int 1), (0, .ref m0), (1, .int x)]) hx hb dX11_hasMadePlace_40 hl (k := 3) rfl (ft_inc k) (by decide) rfl (fun ls hl => ?_)
          refine lv_goto (tgt := 4) hx hb dX11_hasMadePlace_43 (by decide) ?_
          exact ih4 (k + 1) 1 (nI (k + 1))  (by omega) (by omega) (by exact h7.symm) (by first | rfl | assumption)  ls (lv_sub hl [2, 3, 1, 0] rfl)
        · have h9 := ftB_eq (by rw [← ex4_2]; exact c15)
          refine lv_aload_n hx hb dX11_hasMadePlace_18 rfl (lv_at hl 0 rfl) ?_
          refine va_get (D := D) (ci := 11) (v := .ref p5) (C := RX11) (T := TX11) (N := 33) hx hb hts (by decide +kernel) hown hK hP 0 rfl rfl 5 (by decide) (hts (.fieldLink RX11 19 "FiberTraceModel" "made" "[I") (by decide +kernel)) (fun _ h9 => h9) rfl dX11_hasMadePlace_19 ?_
          refine lv_iconst (v := 4) hx hb dX11_hasMadePlace_22 (by decide) ?_
          refine lv_iconst (v := 4) hx hb dX11_hasMadePlace_23 (by decide) ?_
          refine lv_iload_n hx hb dX11_hasMadePlace_24 rfl (lv_at hl 3 rfl) ?_
          refine lv_imul hx hb dX11_hasMadePlace_25 ?_
          refine ft_top (y := nI (4 * k)) (ft_mulN 4 k) ?_
          refine lv_iadd hx hb dX11_hasMadePlace_26 ?_
          refine ft_top (y := nI (4 + (4 * k))) (ft_addN 4 (4 * k)) ?_
          refine lv_iconst (v := 1) hx hb dX11_hasMadePlace_27 (by decide) ?_
          refine lv_iadd hx hb dX11_hasMadePlace_28 ?_
          refine ft_top (y := nI ((4 + (4 * k)) + 1)) (ft_addN (4 + (4 * k)) 1) ?_
          refine va_iald hx hb hK hP 1 0 rfl rfl (vp_in_nI (by omega) (by omega)) dX11_hasMadePlace_29 ?_
          refine ft_top (y := md ((4 + (4 * k)) + 1)) (ft_clampN (by omega)) ?_
          refine lv_iload_n hx hb dX11_hasMadePlace_30 rfl (lv_at hl 1 rfl) ?_
          refine lv_icmp_ne (tgt := 38) hx hb dX11_hasMadePlace_31 (by decide) (fun c31 => ?_) (fun c31 => ?_)
          · have h7 : ftB (∃ t, t < k + 1 ∧ md (4 + 4 * t + 1) = x) = 0 := ftB_f (fun ⟨t, h1, h2⟩ => by rcases Nat.lt_succ_iff_lt_or_eq.mp h1 with q | q; exact h9 ⟨t, q, h2⟩; subst q; exact c31 h2)
            refine lv_iconst (v := 0) hx hb dX11_hasMadePlace_38 (by decide) ?_
            refine lv_istore_n (lv' := [(2, .int 0), (0, .ref m0), (1, .int x), (3, .int (nI k))]) hx hb dX11_hasMadePlace_39 rfl hl (by decide) rfl (fun ls hl => ?_)
            refine lv_iinc (v := nI (k + 1)) (lv' := [(3, .int (nI (k + 1))), (2, .int 0), (0, .ref m0), (1, .int x)]) hx hb dX11_hasMadePlace_40 hl (k := 3) rfl (ft_inc k) (by decide) rfl (fun ls hl => ?_)
            refine lv_goto (tgt := 4) hx hb dX11_hasMadePlace_43 (by decide) ?_
            exact ih4 (k + 1) 0 (nI (k + 1))  (by omega) (by omega) (by exact h7.symm) (by first | rfl | assumption)  ls (lv_sub hl [2, 3, 1, 0] rfl)
          · have h7 : ftB (∃ t, t < k + 1 ∧ md (4 + 4 * t + 1) = x) = 1 := ftB_t ⟨k, by omega, c31⟩
            refine lv_iconst (v := 1) hx hb dX11_hasMadePlace_34 (by decide) ?_
            refine lv_goto (tgt := 39) hx hb dX11_hasMadePlace_35 (by decide) ?_
            refine lv_istore_n (lv' := [(2, .int 1), (0, .ref m0), (1, .int x), (3, .int (nI k))]) hx hb dX11_hasMadePlace_39 rfl hl (by decide) rfl (fun ls hl => ?_)
            refine lv_iinc (v := nI (k + 1)) (lv' := [(3, .int (nI (k + 1))), (2, .int 1), (0, .ref m0), (1, .int x)]) hx hb dX11_hasMadePlace_40 hl (k := 3) rfl (ft_inc k) (by decide) rfl (fun ls hl => ?_)
            refine lv_goto (tgt := 4) hx hb dX11_hasMadePlace_43 (by decide) ?_
            exact ih4 (k + 1) 1 (nI (k + 1))  (by omega) (by omega) (by exact h7.symm) (by first | rfl | assumption)  ls (lv_sub hl [2, 3, 1, 0] rfl)
  exact lp4 _ 0 0 0  (Nat.lt_succ_self _) (by omega) (by exact (ftB_f (fun ⟨t, h, _⟩ => absurd h (Nat.not_lt_zero t))).symm) (by rfl) ls (lv_sub hl [2, 3, 1, 0] rfl)
