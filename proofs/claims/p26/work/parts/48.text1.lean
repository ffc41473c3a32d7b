/-! the class's texts -/
theorem ftSp_c {tx : Nat → Int32} {tn p : Nat} : ftSp tx tn p ↔ ftC tx tn p = 32 := by
  constructor
  · rintro ⟨h, e⟩; rw [ftC_in h]; exact e
  · intro e
    rcases Nat.lt_or_ge p tn with q | q
    · rw [ftC_in q] at e; exact ⟨q, e⟩
    · rw [ftC_out q] at e; exact absurd e (by decide)
theorem ftNg_c {tx : Nat → Int32} {tn p : Nat} : ftNg tx tn p ↔ ftC tx tn (p + 1) = 45 := by
  constructor
  · rintro ⟨h, e⟩; rw [ftC_in h]; exact e
  · intro e
    rcases Nat.lt_or_ge (p + 1) tn with q | q
    · rw [ftC_in q] at e; exact ⟨q, e⟩
    · rw [ftC_out q] at e; exact absurd e (by decide)
theorem ftDp_c {tx : Nat → Int32} {tn q t : Nat} : ftDp tx tn q t ↔ 48 ≤ ftC tx tn (q + t) ∧ ftC tx tn (q + t) ≤ 57 := by
  constructor
  · rintro ⟨h, e⟩; rw [ftC_in h]; exact e
  · intro e
    rcases Nat.lt_or_ge (q + t) tn with r | r
    · rw [ftC_in r] at e; exact ⟨r, e⟩
    · rw [ftC_out r] at e; exact absurd e.1 (by decide)
theorem ft_neg1 (v : Int32) : -v = (-1) * v := by rw [Int32.neg_mul, Int32.one_mul]
noncomputable def ftNfs (tx : Nat → Int32) (tn q : Nat) (nf : Nat → Int32) : Nat → (Nat → Int32)
  | 0 => nf
  | i + 1 => ftNf tx tn (ftNP tx tn q i) i (ftNfs tx tn q nf i)
theorem ftNP_le {tx : Nat → Int32} {tn q : Nat} (h : q ≤ tn) (i : Nat) : ftNP tx tn q i ≤ tn := by
  induction i with
  | zero => exact h
  | succ i ih => exact ftNe_le ih
noncomputable def ftNm (tx : Nat → Int32) (tn q wn : Nat) : Nat := ftIni (fun i => ftNok tx tn (ftNP tx tn q i)) wn
theorem ftNfs_at {tx : Nat → Int32} {tn q : Nat} {nf : Nat → Int32} : ∀ m, (∀ t, t < m → ftNok tx tn (ftNP tx tn q t)) → ∀ i, i < m → ftNfs tx tn q nf m i = ftNv tx tn (ftNP tx tn q i) := by
  intro m
  induction m with
  | zero => intro _ i h; exact absurd h (Nat.not_lt_zero i)
  | succ m ih =>
    intro h i hi
    have e := ftNf_t (fg := ftNfs tx tn q nf m) (i := m) (h m (by omega)).1
    show ftNf tx tn (ftNP tx tn q m) m (ftNfs tx tn q nf m) i = _
    rw [e]
    by_cases z : i = m
    · subst z; exact ftUpd_at0
    · rw [ftUpd_ne z]; exact ih (fun t ht => h t (by omega)) i (by omega)
theorem ftLoss_j (ln : Int32) : ∀ j, 3 ≤ j → j < 6 → ∀ v, ftLossFits (nI j - 3) v ↔ ftRt (nI j) 1 v ln := by
  intro j h3 h6 v
  match j, h3, h6 with
  | 3, _, _ =>
    rw [show ftRt (nI 3) 1 v ln = (-500 ≤ v ∧ v ≤ 5000) from rfl, show nI 3 - 3 = 0 by decide]
    simp [ftLossFits]
  | 4, _, _ =>
    rw [show ftRt (nI 4) 1 v ln = (0 ≤ v ∧ v ≤ 5000) from rfl, show nI 4 - 3 = 1 by decide]
    simp [ftLossFits]
  | 5, _, _ =>
    rw [show ftRt (nI 5) 1 v ln = (0 ≤ v ∧ v ≤ 50) from rfl, show nI 5 - 3 = 2 by decide]
    simp [ftLossFits]
theorem ftRefl_j (ln v : Int32) : ftReflFits (nI 4 - 3) v ↔ ftRt (nI 4) 2 v ln := by
  rw [show ftRt (nI 4) 2 v ln = (1 ≤ v ∧ v ≤ 20000) from rfl, show nI 4 - 3 = 1 by decide]
  simp [ftReflFits]
/-- a link of the class is a row's -/
def ftLR (m : Nat → Int32) (len att en : Int32) (n : Nat) (kf pf lf rf : Nat → Int32) : Prop := m 0 = len ∧ m 1 = att ∧ m 2 = en ∧ m 3 = nI n ∧ n ≤ 10 ∧ ∀ k, k < n → m (4 + 4 * k + 0) = kf k ∧ m (4 + 4 * k + 1) = pf k ∧ m (4 + 4 * k + 2) = lf k ∧ m (4 + 4 * k + 3) = rf k
def ftTd (td : Nat → Int32) (h : Nat) : Prop := ∀ j, j < 3 → td j = nI (h / 2 ^ j % 2)
theorem ftLR_n {m : Nat → Int32} {len att en : Int32} {n : Nat} {kf pf lf rf : Nat → Int32} (h : ftLR m len att en n kf pf lf rf) : ftCN m = n := by
  unfold ftCN
  rw [h.2.2.2.1, nI_clamp (by have := h.2.2.2.2.1; omega)]
theorem ftIns_add {m f : Nat → Int32} {n i : Nat} {kd x lo re v : Int32} (hi : i < 4) (hf : ∀ k, k < n → m (4 + 4 * k + i) = f k) (hv : ftAdd m n kd x lo re (4 + 4 * ftPosW m x n + i) = v) : ∀ k, k < n + 1 → ftAdd m n kd x lo re (4 + 4 * k + i) = ftIns f n (ftPosW m x n) v k := by
  have hle := ftPosW_le m x n
  refine ftIns_by hle ?_ ?_ ?_
  · rw [hv, ftIns_at]
  · intro t ht
    rw [ftAdd_lo hi ht, ftIns_dn ht]; exact hf t (by omega)
  · intro t h1 h2
    rw [ftAdd_hi hi h1 h2, ftIns_up h1 h2]; exact hf (t - 1) (by omega)
theorem ftLR_add {m : Nat → Int32} {len att en kd x lo re : Int32} {n : Nat} {kf pf lf rf : Nat → Int32} (h : ftLR m len att en n kf pf lf rf) (hn : n < 10) (ha : ∀ a b, a < b → b < n → m (4 + 4 * a + 1) < m (4 + 4 * b + 1)) (hne : ∀ t, t < n → m (4 + 4 * t + 1) ≠ x) : ftLR (ftAdd m n kd x lo re) len att en (n + 1) (ftIns kf n (ftIdx pf x n) kd) (ftIns pf n (ftIdx pf x n) x) (ftIns lf n (ftIdx pf x n) lo) (ftIns rf n (ftIdx pf x n) re) := by
  obtain ⟨a1, a2, a3, a4, a5, a6⟩ := h
  rw [ftIdx_pos (fun t ht => (a6 t ht).2.1) ha hne]
  refine ⟨by rw [ftAdd_l (by omega)]; exact a1, by rw [ftAdd_l (by omega)]; exact a2, by rw [ftAdd_l (by omega)]; exact a3, ftAdd_3 _ _ _ _ _ _, by omega, fun k hk => ?_⟩
  exact ⟨ftIns_add (by omega) (fun k hk => (a6 k hk).1) ftAdd_at0 k hk, ftIns_add (by omega) (fun k hk => (a6 k hk).2.1) ftAdd_at1 k hk, ftIns_add (by omega) (fun k hk => (a6 k hk).2.2.1) ftAdd_at2 k hk, ftIns_add (by omega) (fun k hk => (a6 k hk).2.2.2) ftAdd_at3 k hk⟩
theorem ftTd_or : ∀ h, h < 64 → ∀ j, j < 6 → ∀ i, i < 3 → (h ||| 2 ^ j) / 2 ^ i % 2 = if i = j then 1 else h / 2 ^ i % 2 := by decide +kernel
set_option maxHeartbeats 4000000 in
set_option maxRecDepth 100000 in
theorem c_X5_append (l : Launch) (D : va_G) (cI cS : ClassId) (sz : Nat) (a0 ag am ad b0 : Nat) (tn : Nat) (v1 v2 v3 : Int32) (v4 : Int32) (tx : Nat → Int32) (x : Int32) (htn : tn < 120) : Met l yX5_append wsX5_append ({ frames := 1, cells := 0, slots := 0, locals := 22 }) (ftRW D cI cS [.ref a0, .int x] [(a0, .inr (5, [.ref ag, .ref am, .ref ad, .ref b0, .int (nI tn), .int v1, .int v2, .int v3, .int v4])), (ag, .inl (cI, 120, .inl tx))] sz) (ftQi D (nI (tn + 1)) [(a0, .inr (5, [.ref ag, .ref am, .ref ad, .ref b0, .int (nI tn), .int v1, .int v2, .int v3, .int v4])), (ag, .inl (cI, 120, .inl tx))] [(a0, .inr (5, [.ref ag, .ref am, .ref ad, .ref b0, .int (nI (tn + 1)), .int v1, .int v2, .int v3, .int v4])), (ag, .inl (cI, 120, .inl (upd tx tn x)))] sz) 0 0 (va_A [(a0, .inr (5, [.ref ag, .ref am, .ref ad, .ref b0, .int (nI tn), .int v1, .int v2, .int v3, .int v4])), (ag, .inl (cI, 120, .inl tx))] sz) := by
  refine Met.ofW (cc := cX5_append) (maxL := 2) (ret := (some .int)) (by decide) rfl ?_
  intro p e s m args below meth c s₁ B hml hv
  obtain ⟨rfl, hsz, hP, hKK, hD0⟩ := hv
  have hK := hKK.1
  have hx := B.exec
  have hb := B.bytes
  have hr := B.returns
  have hts := atoms_spec (ws := wsX5_append) B.pre
  have hown : s.vm.findClass RX5 = some m.cls := findClass_of_methodNamed B.named
  have hlocks := B.notSynchronized
  subst hsz
  have hD := hD0.self (sz := s.heap.size)
  generalize hAe : va_A [(a0, .inr (5, [.ref ag, .ref am, .ref ad, .ref b0, .int (nI tn), .int v1, .int v2, .int v3, .int v4])), (ag, .inl (cI, 120, .inl tx))] s.heap.size = A at hD ⊢
  have hA : ∀ q : Nat, s.heap.size ≤ q → A q := fun q h => by rw [← hAe]; exact Or.inr h
  have hS : va_S A s.heap s.heap [] := va_S.rf
  have hD : va_D A [(a0, .inr (5, [.ref ag, .ref am, .ref ad, .ref b0, .int (nI tn), .int v1, .int v2, .int v3, .int v4])), (ag, .inl (cI, 120, .inl tx))] := hD
  have hP : va_P D vwCl [(a0, .inr (5, [.ref ag, .ref am, .ref ad, .ref b0, .int (nI tn), .int v1, .int v2, .int v3, .int v4])), (ag, .inl (cI, 120, .inl tx))] s.heap := hP
  have hl := lv_entry ([.ref a0, .int x]) (n := 2) (Nat.le_of_ble_eq_true rfl)
  rw [lg_entry_eq]
  generalize (lg_sl ([.ref a0, .int x]) ++ List.replicate (2 - (lg_sl ([.ref a0, .int x])).length) Slot.unset).toArray = ls at hl ⊢
  have hl : lv_has ls 2 [(0, .ref a0), (1, .int x)] := hl
  refine lv_aload_n hx hb dX5_append_0 rfl (lv_at hl 0 rfl) ?_
  refine va_get (D := D) (ci := 5) (v := .ref ag) (C := RX5) (T := TX5) (N := 9) hx hb hts (by decide +kernel) hown hK hP 0 rfl rfl 0 (by decide) (hts (.fieldLink RX5 9 "FiberTrace$LinkText" "signs" "[I") (by decide +kernel)) (fun _ h9 => h9) rfl dX5_append_1 ?_
  refine lv_aload_n hx hb dX5_append_4 rfl (lv_at hl 0 rfl) ?_
  refine va_get (D := D) (ci := 5) (v := .int (nI tn)) (C := RX5) (T := TX5) (N := 9) hx hb hts (by decide +kernel) hown hK hP 0 rfl rfl 4 (by decide) (hts (.fieldLink RX5 28 "FiberTrace$LinkText" "size" "I") (by decide +kernel)) (fun _ h9 => h9) rfl dX5_append_5 ?_
  refine lv_iload_n hx hb dX5_append_8 rfl (lv_at hl 1 rfl) ?_
  refine ft_cv (wc := [(ag, .inl (cI, 120, .inl tx))]) (wr := [(a0, .inr (5, [.ref ag, .ref am, .ref ad, .ref b0, .int (nI tn), .int v1, .int v2, .int v3, .int v4]))]) (w1 := [(ag, .inl (cI, 120, .inl (ftPut 120 tx (nI tn) x)))]) (ws1 := [(a0, .inr (5, [.ref ag, .ref am, .ref ad, .ref b0, .int (nI tn), .int v1, .int v2, .int v3, .int v4])), (ag, .inl (cI, 120, .inl (ftPut 120 tx (nI tn) x)))]) (va_runSN (As := [.ref ag, .int (nI tn), .int x]) (rest := []) ⟨hx, hb, hml, hown, hts⟩ (c_X10_put l D cI cS s.heap.size ag 120 tx (nI tn) x (by first | assumption | omega)) ⟨va_cnB 3 hts gX5_append_X10_put_n32 rfl rfl rfl (hKK.2 _ (List.mem_of_getElem? (i := 7) rfl)) (hts (.initialized RX10) (by decide +kernel)) (by decide +kernel) ⟨Nat.le_of_ble_eq_true rfl, Nat.le_of_ble_eq_true rfl⟩, hts (.static yX10_put) (by decide +kernel), trivial⟩ (ft_preRW hP hD hKK [1] rfl rfl rfl) rfl rfl hl.1 rfl (lv_room (Nat.le_of_ble_eq_true rfl)) dX5_append_9 ⟨Nat.le_of_ble_eq_true rfl, Nat.le_of_ble_eq_true rfl⟩) hP hD hS hA [1] [0] [0, 1] rfl rfl (by decide) (by decide) (by decide) rfl rfl (fun H locs hP hD hS => ?_)
  rw [ftPut_N (k := tn) (by omega) (by omega)] at hP hD
  have hP : va_P D vwCl [(a0, .inr (5, [.ref ag, .ref am, .ref ad, .ref b0, .int (nI tn), .int v1, .int v2, .int v3, .int v4])), (ag, .inl (cI, 120, .inl (upd tx tn x)))] H := hP
  have hD : va_D A [(a0, .inr (5, [.ref ag, .ref am, .ref ad, .ref b0, .int (nI tn), .int v1, .int v2, .int v3, .int v4])), (ag, .inl (cI, 120, .inl (upd tx tn x)))] := hD
  refine lv_aload_n hx hb dX5_append_12 rfl (lv_at hl 0 rfl) ?_
  refine lv_dup hx hb dX5_append_13 rfl ?_
  refine va_get (D := D) (ci := 5) (v := .int (nI tn)) (C := RX5) (T := TX5) (N := 9) hx hb hts (by decide +kernel) hown hK hP 0 rfl rfl 4 (by decide) (hts (.fieldLink RX5 28 "FiberTrace$LinkText" "size" "I") (by decide +kernel)) (fun _ h9 => h9) rfl dX5_append_14 ?_
  refine lv_iconst (v := 1) hx hb dX5_append_17 (by decide) ?_
  refine lv_iadd hx hb dX5_append_18 ?_
  refine ft_top (y := nI (tn + 1)) (ft_addN tn 1) ?_
  refine va_put (D := D) (ci := 5) (v := .int (nI (tn + 1))) (ty := .int) (C := RX5) (T := TX5) (N := 9) hx hb hts (by decide +kernel) tyX5 tyX5_ok nmX5 hown hK hP hD hS 0 rfl rfl 4 (by decide) (hts (.fieldLink RX5 28 "FiberTrace$LinkText" "size" "I") (by decide +kernel)) (fun _ h9 => h9) rfl (by decide +kernel) rfl rfl (Nat.le_of_ble_eq_true rfl) dX5_append_19 (fun H locs hP hD hS => ?_)
  have hP : va_P D vwCl [(a0, .inr (5, [.ref ag, .ref am, .ref ad, .ref b0, .int (nI (tn + 1)), .int v1, .int v2, .int v3, .int v4])), (ag, .inl (cI, 120, .inl (upd tx tn x)))] H := hP
  have hD : va_D A [(a0, .inr (5, [.ref ag, .ref am, .ref ad, .ref b0, .int (nI (tn + 1)), .int v1, .int v2, .int v3, .int v4])), (ag, .inl (cI, 120, .inl (upd tx tn x)))] := hD
  refine lv_aload_n hx hb dX5_append_22 rfl (lv_at hl 0 rfl) ?_
  refine va_get (D := D) (ci := 5) (v := .int (nI (tn + 1))) (C := RX5) (T := TX5) (N := 9) hx hb hts (by decide +kernel) hown hK hP 0 rfl rfl 4 (by decide) (hts (.fieldLink RX5 28 "FiberTrace$LinkText" "size" "I") (by decide +kernel)) (fun _ h9 => h9) rfl dX5_append_23 ?_
  have hw9 : ([(a0, .inr (5, [.ref ag, .ref am, .ref ad, .ref b0, .int (nI (tn + 1)), .int v1, .int v2, .int v3, .int v4])), (ag, .inl (cI, 120, .inl (upd tx tn x)))] : va_W) = [(a0, .inr (5, [.ref ag, .ref am, .ref ad, .ref b0, .int (nI (tn + 1)), .int v1, .int v2, .int v3, .int v4])), (ag, .inl (cI, 120, .inl (upd tx tn x)))] := rfl
  rw [hw9] at hP hD
  exact W.iret (v := nI (tn + 1)) hx hb hr (fun t ht hW => ⟨⟨nI (tn + 1), (), rfl, rfl, by rw [ht]; exact hP, by rw [hAe]; exact hD⟩, by rw [hAe]; exact hS.F ht⟩) hS.2.2 dX5_append_26
set_option maxHeartbeats 4000000 in
set_option maxRecDepth 100000 in
theorem c_X5_empty (l : Launch) (D : va_G) (cI cS : ClassId) (sz : Nat) (a0 ag am ad b0 : Nat) (tn : Nat) (v1 v2 v3 : Int32) (v4 : Int32)  : Met l yX5_empty wsX5_empty ({ frames := 0, cells := 0, slots := 0, locals := 0 }) (ftRW D cI cS [.ref a0] [(a0, .inr (5, [.ref ag, .ref am, .ref ad, .ref b0, .int (nI tn), .int v1, .int v2, .int v3, .int v4]))] sz) (ftQi D (nI tn) [(a0, .inr (5, [.ref ag, .ref am, .ref ad, .ref b0, .int (nI tn), .int v1, .int v2, .int v3, .int v4]))] [(a0, .inr (5, [.ref ag, .ref am, .ref ad, .ref b0, .int 0, .int v1, .int v2, .int v3, .int v4]))] sz) 0 0 (va_A [(a0, .inr (5, [.ref ag, .ref am, .ref ad, .ref b0, .int (nI tn), .int v1, .int v2, .int v3, .int v4]))] sz) := by
  refine Met.ofW (cc := cX5_empty) (maxL := 2) (ret := (some .int)) (by decide) rfl ?_
  intro p e s m args below meth c s₁ B hml hv
  obtain ⟨rfl, hsz, hP, hKK, hD0⟩ := hv
  have hK := hKK.1
  have hx := B.exec
  have hb := B.bytes
  have hr := B.returns
  have hts := atoms_spec (ws := wsX5_empty) B.pre
  have hown : s.vm.findClass RX5 = some m.cls := findClass_of_methodNamed B.named
  have hlocks := B.notSynchronized
  subst hsz
  have hD := hD0.self (sz := s.heap.size)
  generalize hAe : va_A [(a0, .inr (5, [.ref ag, .ref am, .ref ad, .ref b0, .int (nI tn), .int v1, .int v2, .int v3, .int v4]))] s.heap.size = A at hD ⊢
  have hA : ∀ q : Nat, s.heap.size ≤ q → A q := fun q h => by rw [← hAe]; exact Or.inr h
  have hS : va_S A s.heap s.heap [] := va_S.rf
  have hD : va_D A [(a0, .inr (5, [.ref ag, .ref am, .ref ad, .ref b0, .int (nI tn), .int v1, .int v2, .int v3, .int v4]))] := hD
  have hP : va_P D vwCl [(a0, .inr (5, [.ref ag, .ref am, .ref ad, .ref b0, .int (nI tn), .int v1, .int v2, .int v3, .int v4]))] s.heap := hP
  have hl := lv_entry ([.ref a0]) (n := 2) (Nat.le_of_ble_eq_true rfl)
  rw [lg_entry_eq]
  generalize (lg_sl ([.ref a0]) ++ List.replicate (2 - (lg_sl ([.ref a0])).length) Slot.unset).toArray = ls at hl ⊢
  have hl : lv_has ls 2 [(0, .ref a0)] := hl
  refine lv_aload_n hx hb dX5_empty_0 rfl (lv_at hl 0 rfl) ?_
  refine va_get (D := D) (ci := 5) (v := .int (nI tn)) (C := RX5) (T := TX5) (N := 9) hx hb hts (by decide +kernel) hown hK hP 0 rfl rfl 4 (by decide) (hts (.fieldLink RX5 28 "FiberTrace$LinkText" "size" "I") (by decide +kernel)) (fun _ h9 => h9) rfl dX5_empty_1 ?_
  refine lv_istore_n (lv' := [(1, .int (nI tn)), (0, .ref a0)]) hx hb dX5_empty_4 rfl hl (by decide) rfl (fun ls hl => ?_)
  refine lv_aload_n hx hb dX5_empty_5 rfl (lv_at hl 1 rfl) ?_
  refine lv_iconst (v := 0) hx hb dX5_empty_6 (by decide) ?_
  refine va_put (D := D) (ci := 5) (v := .int 0) (ty := .int) (C := RX5) (T := TX5) (N := 9) hx hb hts (by decide +kernel) tyX5 tyX5_ok nmX5 hown hK hP hD hS 0 rfl rfl 4 (by decide) (hts (.fieldLink RX5 28 "FiberTrace$LinkText" "size" "I") (by decide +kernel)) (fun _ h9 => h9) rfl (by decide +kernel) rfl rfl (Nat.le_of_ble_eq_true rfl) dX5_empty_7 (fun H locs hP hD hS => ?_)
  have hP : va_P D vwCl [(a0, .inr (5, [.ref ag, .ref am, .ref ad, .ref b0, .int 0, .int v1, .int v2, .int v3, .int v4]))] H := hP
  have hD : va_D A [(a0, .inr (5, [.ref ag, .ref am, .ref ad, .ref b0, .int 0, .int v1, .int v2, .int v3, .int v4]))] := hD
  refine lv_iload_n hx hb dX5_empty_10 rfl (lv_at hl 0 rfl) ?_
  have hw9 : ([(a0, .inr (5, [.ref ag, .ref am, .ref ad, .ref b0, .int 0, .int v1, .int v2, .int v3, .int v4]))] : va_W) = [(a0, .inr (5, [.ref ag, .ref am, .ref ad, .ref b0, .int 0, .int v1, .int v2, .int v3, .int v4]))] := rfl
  rw [hw9] at hP hD
  exact W.iret (v := nI tn) hx hb hr (fun t ht hW => ⟨⟨nI tn, (), rfl, rfl, by rw [ht]; exact hP, by rw [hAe]; exact hD⟩, by rw [hAe]; exact hS.F ht⟩) hS.2.2 dX5_empty_11
set_option maxHeartbeats 4000000 in
set_option maxRecDepth 100000 in
theorem c_X5_signAt (l : Launch) (D : va_G) (cI cS : ClassId) (a0 ag am ad b0 : Nat) (tn : Nat) (v1 v2 v3 : Int32) (v4 : Int32) (tx : Nat → Int32) (i : Nat) (htn : tn ≤ 120) (hi : i < 1000) : Met l yX5_signAt wsX5_signAt ({ frames := 1, cells := 0, slots := 0, locals := 21 }) (ftRO D cI cS [.ref a0, .int (nI i)] [(a0, .inr (5, [.ref ag, .ref am, .ref ad, .ref b0, .int (nI tn), .int v1, .int v2, .int v3, .int v4])), (ag, .inl (cI, 120, .inl tx))]) (vp_Si (fun o9 => o9 = ftC tx tn i)) 0 0 (fun _ => False) := by
  refine Met.ofW (cc := cX5_signAt) (maxL := 2) (ret := (some .int)) (by decide) rfl ?_
  intro p e s m args below meth c s₁ B hml hv
  obtain ⟨rfl, hP, hKK⟩ := hv
  have hK := hKK.1
  have hx := B.exec
  have hb := B.bytes
  have hr := B.returns
  have hts := atoms_spec (ws := wsX5_signAt) B.pre
  have hown : s.vm.findClass RX5 = some m.cls := findClass_of_methodNamed B.named
  have hlocks := B.notSynchronized
  have hP : va_P D vwCl [(a0, .inr (5, [.ref ag, .ref am, .ref ad, .ref b0, .int (nI tn), .int v1, .int v2, .int v3, .int v4])), (ag, .inl (cI, 120, .inl tx))] s.heap := hP
  have hl := lv_entry ([.ref a0, .int (nI i)]) (n := 2) (Nat.le_of_ble_eq_true rfl)
  rw [lg_entry_eq]
  generalize (lg_sl ([.ref a0, .int (nI i)]) ++ List.replicate (2 - (lg_sl ([.ref a0, .int (nI i)])).length) Slot.unset).toArray = ls at hl ⊢
  have hl : lv_has ls 2 [(0, .ref a0), (1, .int (nI i))] := hl
  refine lv_iload_n hx hb dX5_signAt_0 rfl (lv_at hl 1 rfl) ?_
  refine lv_aload_n hx hb dX5_signAt_1 rfl (lv_at hl 0 rfl) ?_
  refine va_get (D := D) (ci := 5) (v := .int (nI tn)) (C := RX5) (T := TX5) (N := 9) hx hb hts (by decide +kernel) hown hK hP 0 rfl rfl 4 (by decide) (hts (.fieldLink RX5 28 "FiberTrace$LinkText" "size" "I") (by decide +kernel)) (fun _ h9 => h9) rfl dX5_signAt_2 ?_
  refine lv_icmp_ge (tgt := 19) hx hb dX5_signAt_5 (by decide) (fun c5 => ?_) (fun c5 => ?_)
  · have c5n : tn ≤ i := ft_leN (by omega) (by omega) c5
    have hv9 : ftC tx tn i = 0 := ftC_out c5n
    refine lv_iconst (v := 0) hx hb dX5_signAt_19 (by decide) ?_
    exact W.iret (v := 0) hx hb hr (fun t ht hW => ⟨0, rfl, (by show (0 : Int32) = ftC tx tn i; exact hv9.symm), ht⟩) (fun _ h9 => absurd h9 List.not_mem_nil) dX5_signAt_20
  · have c5n : i < tn := ft_nleN (by omega) (by omega) c5
    have hv9 : ftC tx tn i = tx i := ftC_in c5n
    refine lv_aload_n hx hb dX5_signAt_8 rfl (lv_at hl 0 rfl) ?_
    refine va_get (D := D) (ci := 5) (v := .ref ag) (C := RX5) (T := TX5) (N := 9) hx hb hts (by decide +kernel) hown hK hP 0 rfl rfl 0 (by decide) (hts (.fieldLink RX5 9 "FiberTrace$LinkText" "signs" "[I") (by decide +kernel)) (fun _ h9 => h9) rfl dX5_signAt_9 ?_
    refine lv_iload_n hx hb dX5_signAt_12 rfl (lv_at hl 1 rfl) ?_
    refine ft_csi (r := ftAt 120 tx (nI i)) (va_runSN (As := [.ref ag, .int (nI i)]) (rest := []) ⟨hx, hb, hml, hown, hts⟩ (c_X10_at l D cI cS ag 120 tx (nI i) (by first | assumption | omega)) ⟨va_cnB 2 hts gX5_signAt_X10_at_n93 rfl rfl rfl (hKK.2 _ (List.mem_of_getElem? (i := 8) rfl)) (hts (.initialized RX10) (by decide +kernel)) (by decide +kernel) ⟨Nat.le_of_ble_eq_true rfl, Nat.le_of_ble_eq_true rfl⟩, hts (.static yX10_at) (by decide +kernel), trivial⟩ (ft_preRO hP hKK [1] rfl) rfl rfl hl.1 rfl (lv_room (Nat.le_of_ble_eq_true rfl)) dX5_signAt_13 ⟨Nat.le_of_ble_eq_true rfl, Nat.le_of_ble_eq_true rfl⟩) ?_
    refine ft_top (y := tx i) (ftAt_N (by omega) (by omega)) ?_
    refine lv_goto (tgt := 20) hx hb dX5_signAt_16 (by decide) ?_
    exact W.iret (v := tx i) hx hb hr (fun t ht hW => ⟨tx i, rfl, (by show (tx i : Int32) = ftC tx tn i; exact hv9.symm), ht⟩) (fun _ h9 => absurd h9 List.not_mem_nil) dX5_signAt_20
set_option maxHeartbeats 4000000 in
set_option maxRecDepth 100000 in
theorem c_X5_nameOf (l : Launch) (D : va_G) (cI cS : ClassId) (sK sV : Nat → Nat) (j : Nat) (hj : j < 6) : Met l yX5_nameOf wsX5_nameOf ({ frames := 0, cells := 0, slots := 0, locals := 0 }) (ftROS D cI cS sK sV [.int (nI j)] []) (ftSr (sK j)) 0 0 (fun _ => False) := by
  refine Met.ofW (cc := cX5_nameOf) (maxL := 1) (ret := (some (.object "java/lang/String"))) (by decide) rfl ?_
  intro p e s m args below meth c s₁ B hml hv
  obtain ⟨rfl, hP, hKK, hSt⟩ := hv
  have hS : va_S (fun _ => False) s.heap s.heap [] := va_S.rf
  have hK := hKK.1
  have hx := B.exec
  have hb := B.bytes
  have hr := B.returns
  have hts := atoms_spec (ws := wsX5_nameOf) B.pre
  have hown : s.vm.findClass RX5 = some m.cls := findClass_of_methodNamed B.named
  have hlocks := B.notSynchronized
  have hP : va_P D vwCl [] s.heap := hP
  have hl := lv_entry ([.int (nI j)]) (n := 1) (Nat.le_of_ble_eq_true rfl)
  rw [lg_entry_eq]
  generalize (lg_sl ([.int (nI j)]) ++ List.replicate (1 - (lg_sl ([.int (nI j)])).length) Slot.unset).toArray = ls at hl ⊢
  have hl : lv_has ls 1 [(0, .int (nI j))] := hl
  refine lv_iload_n hx hb dX5_nameOf_0 rfl (lv_at hl 0 rfl) ?_
  by_cases c1_0 : (nI j) = 0
  · refine lv_tableIn (off := 35) (tgt := 36) hx hb dX5_nameOf_1 (by rw [c1_0]; decide) (by rw [c1_0]; decide) (by rw [c1_0]; decide) (by decide) ?_
    refine va_ldcS hx hb hown (hSt.2.2.2.1 0 (by omega)) dX5_nameOf_36 ?_
    exact W.aret (v := .ref (sK 0)) hx hb hr (Or.inl ⟨_, rfl⟩) (Or.inr ⟨_, rfl⟩) (fun t ht hW => ⟨(by rw [show j = 0 from ft_eqN (by omega) (by omega) c1_0]), ht⟩) (fun _ h9 => absurd h9 List.not_mem_nil) dX5_nameOf_38
  by_cases c1_1 : (nI j) = 1
  · refine lv_tableIn (off := 38) (tgt := 39) hx hb dX5_nameOf_1 (by rw [c1_1]; decide) (by rw [c1_1]; decide) (by rw [c1_1]; decide) (by decide) ?_
    refine va_ldcS hx hb hown (hSt.2.2.2.1 1 (by omega)) dX5_nameOf_39 ?_
    exact W.aret (v := .ref (sK 1)) hx hb hr (Or.inl ⟨_, rfl⟩) (Or.inr ⟨_, rfl⟩) (fun t ht hW => ⟨(by rw [show j = 1 from ft_eqN (by omega) (by omega) c1_1]), ht⟩) (fun _ h9 => absurd h9 List.not_mem_nil) dX5_nameOf_41
  by_cases c1_2 : (nI j) = 2
  · refine lv_tableIn (off := 41) (tgt := 42) hx hb dX5_nameOf_1 (by rw [c1_2]; decide) (by rw [c1_2]; decide) (by rw [c1_2]; decide) (by decide) ?_
    refine va_ldcS hx hb hown (hSt.2.2.2.1 2 (by omega)) dX5_nameOf_42 ?_
    exact W.aret (v := .ref (sK 2)) hx hb hr (Or.inl ⟨_, rfl⟩) (Or.inr ⟨_, rfl⟩) (fun t ht hW => ⟨(by rw [show j = 2 from ft_eqN (by omega) (by omega) c1_2]), ht⟩) (fun _ h9 => absurd h9 List.not_mem_nil) dX5_nameOf_44
  by_cases c1_3 : (nI j) = 3
  · refine lv_tableIn (off := 44) (tgt := 45) hx hb dX5_nameOf_1 (by rw [c1_3]; decide) (by rw [c1_3]; decide) (by rw [c1_3]; decide) (by decide) ?_
    refine va_ldcS hx hb hown (hSt.2.2.2.1 3 (by omega)) dX5_nameOf_45 ?_
    exact W.aret (v := .ref (sK 3)) hx hb hr (Or.inl ⟨_, rfl⟩) (Or.inr ⟨_, rfl⟩) (fun t ht hW => ⟨(by rw [show j = 3 from ft_eqN (by omega) (by omega) c1_3]), ht⟩) (fun _ h9 => absurd h9 List.not_mem_nil) dX5_nameOf_47
  by_cases c1_4 : (nI j) = 4
  · refine lv_tableIn (off := 47) (tgt := 48) hx hb dX5_nameOf_1 (by rw [c1_4]; decide) (by rw [c1_4]; decide) (by rw [c1_4]; decide) (by decide) ?_
    refine va_ldcS hx hb hown (hSt.2.2.2.1 4 (by omega)) dX5_nameOf_48 ?_
    exact W.aret (v := .ref (sK 4)) hx hb hr (Or.inl ⟨_, rfl⟩) (Or.inr ⟨_, rfl⟩) (fun t ht hW => ⟨(by rw [show j = 4 from ft_eqN (by omega) (by omega) c1_4]), ht⟩) (fun _ h9 => absurd h9 List.not_mem_nil) dX5_nameOf_50
  have c1_0i := lv_neT (a := 0) c1_0 (by decide)
  have c1_1i := lv_neT (a := 1) c1_1 (by decide)
  have c1_2i := lv_neT (a := 2) c1_2 (by decide)
  have c1_3i := lv_neT (a := 3) c1_3 (by decide)
  have c1_4i := lv_neT (a := 4) c1_4 (by decide)
  refine lv_tableOut (tgt := 51) hx hb dX5_nameOf_1 (by omega) (by decide) ?_
  have h5 : j = 5 := by
    have q0 : j ≠ 0 := fun q => c1_0 (by rw [q]; rfl)
    have q1 : j ≠ 1 := fun q => c1_1 (by rw [q]; rfl)
    have q2 : j ≠ 2 := fun q => c1_2 (by rw [q]; rfl)
    have q3 : j ≠ 3 := fun q => c1_3 (by rw [q]; rfl)
    have q4 : j ≠ 4 := fun q => c1_4 (by rw [q]; rfl)
    omega
  refine va_ldcS hx hb hown (hSt.2.2.2.1 5 (by omega)) dX5_nameOf_51 ?_
  exact W.aret (v := .ref (sK 5)) hx hb hr (Or.inl ⟨_, rfl⟩) (Or.inr ⟨_, rfl⟩) (fun t ht hW => ⟨(by rw [h5]), ht⟩) (fun _ h9 => absurd h9 List.not_mem_nil) dX5_nameOf_53
set_option maxHeartbeats 4000000 in
set_option maxRecDepth 100000 in
theorem c_X5_numbersOf (l : Launch) (D : va_G) (cI cS : ClassId) (x : Int32)  : Met l yX5_numbersOf wsX5_numbersOf ({ frames := 0, cells := 0, slots := 0, locals := 0 }) (ftRO D cI cS [.int x] []) (vp_Si (fun o9 => o9 = nI (ftNs x))) 0 0 (fun _ => False) := by
  refine Met.ofW (cc := cX5_numbersOf) (maxL := 1) (ret := (some .int)) (by decide) rfl ?_
  intro p e s m args below meth c s₁ B hml hv
  obtain ⟨rfl, hP, hKK⟩ := hv
  have hK := hKK.1
  have hx := B.exec
  have hb := B.bytes
  have hr := B.returns
  have hts := atoms_spec (ws := wsX5_numbersOf) B.pre
  have hown : s.vm.findClass RX5 = some m.cls := findClass_of_methodNamed B.named
  have hlocks := B.notSynchronized
  have hP : va_P D vwCl [] s.heap := hP
  have hl := lv_entry ([.int x]) (n := 1) (Nat.le_of_ble_eq_true rfl)
  rw [lg_entry_eq]
  generalize (lg_sl ([.int x]) ++ List.replicate (1 - (lg_sl ([.int x])).length) Slot.unset).toArray = ls at hl ⊢
  have hl : lv_has ls 1 [(0, .int x)] := hl
  refine lv_iload_n hx hb dX5_numbersOf_0 rfl (lv_at hl 0 rfl) ?_
  refine lv_iconst (v := 3) hx hb dX5_numbersOf_1 (by decide) ?_
  refine lv_icmp_ge (tgt := 7) hx hb dX5_numbersOf_2 (by decide) (fun c2 => ?_) (fun c2 => ?_)
  · refine lv_iload_n hx hb dX5_numbersOf_7 rfl (lv_at hl 0 rfl) ?_
    refine lv_iconst (v := 4) hx hb dX5_numbersOf_8 (by decide) ?_
    refine lv_icmp_ne (tgt := 16) hx hb dX5_numbersOf_9 (by decide) (fun c9 => ?_) (fun c9 => ?_)
    · refine lv_iconst (v := 2) hx hb dX5_numbersOf_16 (by decide) ?_
      exact W.iret (v := 2) hx hb hr (fun t ht hW => ⟨2, rfl, (by show (2 : Int32) = nI (ftNs x); unfold ftNs; first | (rw [if_pos (Int32.not_le.mp c2)]; rfl) | (rw [if_neg (Int32.not_lt.mpr c2), if_pos c9]; rfl) | (rw [if_neg (Int32.not_lt.mpr c2), if_neg c9]; rfl)), ht⟩) (fun _ h9 => absurd h9 List.not_mem_nil) dX5_numbersOf_17
    · refine lv_iconst (v := 3) hx hb dX5_numbersOf_12 (by decide) ?_
      refine lv_goto (tgt := 17) hx hb dX5_numbersOf_13 (by decide) ?_
      exact W.iret (v := 3) hx hb hr (fun t ht hW => ⟨3, rfl, (by show (3 : Int32) = nI (ftNs x); unfold ftNs; first | (rw [if_pos (Int32.not_le.mp c2)]; rfl) | (rw [if_neg (Int32.not_lt.mpr c2), if_pos c9]; rfl) | (rw [if_neg (Int32.not_lt.mpr c2), if_neg c9]; rfl)), ht⟩) (fun _ h9 => absurd h9 List.not_mem_nil) dX5_numbersOf_17
  · refine lv_iconst (v := 1) hx hb dX5_numbersOf_5 (by decide) ?_
    exact W.iret (v := 1) hx hb hr (fun t ht hW => ⟨1, rfl, (by show (1 : Int32) = nI (ftNs x); unfold ftNs; first | (rw [if_pos (Int32.not_le.mp c2)]; rfl) | (rw [if_neg (Int32.not_lt.mpr c2), if_pos c9]; rfl) | (rw [if_neg (Int32.not_lt.mpr c2), if_neg c9]; rfl)), ht⟩) (fun _ h9 => absurd h9 List.not_mem_nil) dX5_numbersOf_6
set_option maxHeartbeats 4000000 in
set_option maxRecDepth 100000 in
theorem c_X5_isLetter (l : Launch) (D : va_G) (cI cS : ClassId) (x : Int32)  : Met l yX5_isLetter wsX5_isLetter ({ frames := 1, cells := 0, slots := 0, locals := 22 }) (ftRO D cI cS [.int x] []) (vp_Si (fun o9 => o9 = ftB (ftLet x))) 0 0 (fun _ => False) := by
  refine Met.ofW (cc := cX5_isLetter) (maxL := 1) (ret := (some .boolean)) (by decide) rfl ?_
  intro p e s m args below meth c s₁ B hml hv
  obtain ⟨rfl, hP, hKK⟩ := hv
  have hK := hKK.1
  have hx := B.exec
  have hb := B.bytes
  have hr := B.returns
  have hts := atoms_spec (ws := wsX5_isLetter) B.pre
  have hown : s.vm.findClass RX5 = some m.cls := findClass_of_methodNamed B.named
  have hlocks := B.notSynchronized
  have hP : va_P D vwCl [] s.heap := hP
  have hl := lv_entry ([.int x]) (n := 1) (Nat.le_of_ble_eq_true rfl)
  rw [lg_entry_eq]
  generalize (lg_sl ([.int x]) ++ List.replicate (1 - (lg_sl ([.int x])).length) Slot.unset).toArray = ls at hl ⊢
  have hl : lv_has ls 1 [(0, .int x)] := hl
  refine lv_iload_n hx hb dX5_isLetter_0 rfl (lv_at hl 0 rfl) ?_
  refine lv_bipush (v := 97) hx hb dX5_isLetter_1 (by decide) ?_
  refine lv_bipush (v := 122) hx hb dX5_isLetter_3 (by decide) ?_
  refine ft_csi (r := ftB (97 ≤ x ∧ x ≤ 122)) (va_runSN (As := [.int x, .int 97, .int 122]) (rest := []) ⟨hx, hb, hml, hown, hts⟩ (c_X10_isWithin l D cI cS x 97 122) ⟨va_cnB 3 hts gX5_isLetter_X10_isWithin_n115 rfl rfl rfl (hKK.2 _ (List.mem_of_getElem? (i := 9) rfl)) (hts (.initialized RX10) (by decide +kernel)) (by decide +kernel) ⟨Nat.le_of_ble_eq_true rfl, Nat.le_of_ble_eq_true rfl⟩, hts (.static yX10_isWithin) (by decide +kernel), trivial⟩ (ft_preRO hP hKK [] rfl) rfl rfl hl.1 rfl (lv_room (Nat.le_of_ble_eq_true rfl)) dX5_isLetter_5 ⟨Nat.le_of_ble_eq_true rfl, Nat.le_of_ble_eq_true rfl⟩) ?_
  refine lv_if_ne (tgt := 22) hx hb dX5_isLetter_8 (by decide) (fun c8 => ?_) (fun c8 => ?_)
  · replace c8 := ftB_ne c8
    have hv9 : ftB (ftLet x) = 1 := ftB_t (Or.inl c8)
    refine lv_iconst (v := 1) hx hb dX5_isLetter_22 (by decide) ?_
    refine lv_goto (tgt := 27) hx hb dX5_isLetter_23 (by decide) ?_
    exact W.zret (v := 1) hx hb hr (by rfl) (fun t ht hW => ⟨1, rfl, (by show (1 : Int32) = ftB (ftLet x); exact hv9.symm), ht⟩) (fun _ h9 => absurd h9 List.not_mem_nil) dX5_isLetter_27
  · replace c8 := ftB_eq c8
    refine lv_iload_n hx hb dX5_isLetter_11 rfl (lv_at hl 0 rfl) ?_
    refine lv_bipush (v := 65) hx hb dX5_isLetter_12 (by decide) ?_
    refine lv_bipush (v := 90) hx hb dX5_isLetter_14 (by decide) ?_
    refine ft_csi (r := ftB (65 ≤ x ∧ x ≤ 90)) (va_runSN (As := [.int x, .int 65, .int 90]) (rest := []) ⟨hx, hb, hml, hown, hts⟩ (c_X10_isWithin l D cI cS x 65 90) ⟨va_cnB 3 hts gX5_isLetter_X10_isWithin_n115 rfl rfl rfl (hKK.2 _ (List.mem_of_getElem? (i := 9) rfl)) (hts (.initialized RX10) (by decide +kernel)) (by decide +kernel) ⟨Nat.le_of_ble_eq_true rfl, Nat.le_of_ble_eq_true rfl⟩, hts (.static yX10_isWithin) (by decide +kernel), trivial⟩ (ft_preRO hP hKK [] rfl) rfl rfl hl.1 rfl (lv_room (Nat.le_of_ble_eq_true rfl)) dX5_isLetter_16 ⟨Nat.le_of_ble_eq_true rfl, Nat.le_of_ble_eq_true rfl⟩) ?_
    refine lv_if_eq (tgt := 26) hx hb dX5_isLetter_19 (by decide) (fun c19 => ?_) (fun c19 => ?_)
    · replace c19 := ftB_eq c19
      have hv9 : ftB (ftLet x) = 0 := ftB_f (fun q => q.elim c8 c19)
      refine lv_iconst (v := 0) hx hb dX5_isLetter_26 (by decide) ?_
      exact W.zret (v := 0) hx hb hr (by rfl) (fun t ht hW => ⟨0, rfl, (by show (0 : Int32) = ftB (ftLet x); exact hv9.symm), ht⟩) (fun _ h9 => absurd h9 List.not_mem_nil) dX5_isLetter_27
    · replace c19 := ftB_ne c19
      have hv9 : ftB (ftLet x) = 1 := ftB_t (Or.inr c19)
      refine lv_iconst (v := 1) hx hb dX5_isLetter_22 (by decide) ?_
      refine lv_goto (tgt := 27) hx hb dX5_isLetter_23 (by decide) ?_
      exact W.zret (v := 1) hx hb hr (by rfl) (fun t ht hW => ⟨1, rfl, (by show (1 : Int32) = ftB (ftLet x); exact hv9.symm), ht⟩) (fun _ h9 => absurd h9 List.not_mem_nil) dX5_isLetter_27
set_option maxHeartbeats 4000000 in
set_option maxRecDepth 100000 in
theorem c_X5_standsAt (l : Launch) (D : va_G) (cI cS : ClassId) (sK sV : Nat → Nat) (a0 ag am ad b0 : Nat) (tn : Nat) (v1 v2 v3 : Int32) (v4 : Int32) (tx : Nat → Int32) (j sp : Nat) (htn : tn ≤ 120) (hj : j < 6) (hsp : sp ≤ tn) : Met l yX5_standsAt wsX5_standsAt ({ frames := 5, cells := 0, slots := 0, locals := 115 }) (ftROS D cI cS sK sV [.ref a0, .ref (sK j), .int (nI sp)] [(a0, .inr (5, [.ref ag, .ref am, .ref ad, .ref b0, .int (nI tn), .int v1, .int v2, .int v3, .int v4])), (ag, .inl (cI, 120, .inl tx))]) (vp_Si (fun o9 => o9 = ftB (∀ t, t < ftWs j → ftC tx tn (sp + t) = ftLt (nI (100 * j + t))))) 0 0 (fun _ => False) := by
  refine Met.ofW (cc := cX5_standsAt) (maxL := 4) (ret := (some .boolean)) (by decide) rfl ?_
  intro p e s m args below meth c s₁ B hml hv
  obtain ⟨rfl, hP, hKK, hSt⟩ := hv
  have hS : va_S (fun _ => False) s.heap s.heap [] := va_S.rf
  have hK := hKK.1
  have hx := B.exec
  have hb := B.bytes
  have hr := B.returns
  have hts := atoms_spec (ws := wsX5_standsAt) B.pre
  have hown : s.vm.findClass RX5 = some m.cls := findClass_of_methodNamed B.named
  have hlocks := B.notSynchronized
  have hP : va_P D vwCl [(a0, .inr (5, [.ref ag, .ref am, .ref ad, .ref b0, .int (nI tn), .int v1, .int v2, .int v3, .int v4])), (ag, .inl (cI, 120, .inl tx))] s.heap := hP
  have hl := lv_entry ([.ref a0, .ref (sK j), .int (nI sp)]) (n := 4) (Nat.le_of_ble_eq_true rfl)
  rw [lg_entry_eq]
  generalize (lg_sl ([.ref a0, .ref (sK j), .int (nI sp)]) ++ List.replicate (4 - (lg_sl ([.ref a0, .ref (sK j), .int (nI sp)])).length) Slot.unset).toArray = ls at hl ⊢
  have hl : lv_has ls 4 [(0, .ref a0), (1, .ref (sK j)), (2, .int (nI sp))] := hl
  have hw11 := ftWs_le j
  refine lv_iconst (v := 0) hx hb dX5_standsAt_0 (by decide) ?_
  refine lv_istore_n (lv' := [(3, .int 0), (0, .ref a0), (1, .ref (sK j)), (2, .int (nI sp))]) hx hb dX5_standsAt_1 rfl hl (by decide) rfl (fun ls hl => ?_)
  have lp2 : ∀ (n2 : Nat) (k : Nat) (x2_3 : Int32), ftWs j - k < n2 → (k ≤ ftWs j) → (∀ t, t < k → ftC tx tn (sp + t) = ftLt (nI (100 * j + t))) → x2_3 = nI k → ∀ ls : Array Slot, lv_has ls 4 [(0, .ref a0), (1, .ref (sK j)), (2, .int (nI sp)), (3, .int x2_3)] → W p l e (headSpec wsX5_standsAt { frames := 5, cells := 0, slots := 0, locals := 115 }).room s m ([.ref a0, .ref (sK j), .int (nI sp)] : List Value).toArray below meth c s.heap [] 0 0 (MQ below (vp_Si (fun o9 => o9 = ftB (∀ t, t < ftWs j → ftC tx tn (sp + t) = ftLt (nI (100 * j + t))))) ([.ref a0, .ref (sK j), .int (nI sp)] : List Value).toArray s 0 0 (fun _ => False)) (F0 m 2 ls []) := by
    intro n2
    induction n2 with
    | zero =>
      intro k x2_3  hm2
      exact absurd hm2 (Nat.not_lt_zero _)
    | succ n2 ih2 =>
      intro k x2_3  hm2 hks hall ex2_3  ls hl
      subst ex2_3
      refine lv_iload_n hx hb dX5_standsAt_2 rfl (lv_at hl 3 rfl) ?_
      refine lv_aload_n hx hb dX5_standsAt_3 rfl (lv_at hl 1 rfl) ?_
      refine ft_csi (r := nI (ftWs j)) (va_runV (C := RJ0) (As := []) (rest := [.int (nI k)]) ⟨hx, hb, hml, hown, hts⟩ (c_J0_length_8abf5 l D cI cS sK sV j (by first | assumption | omega)) (cwV 0 hts gX5_standsAt_J0_length_8abf5 rfl rfl rfl (by decide +kernel) ⟨Nat.le_of_ble_eq_true rfl, Nat.le_of_ble_eq_true rfl⟩) (ft_preJ (a := sK j) hP hKK hSt hS (vk_recv hSt.1 (by omega) hS) [] rfl) rfl rfl hl.1 rfl (lv_room (Nat.le_of_ble_eq_true rfl)) dX5_standsAt_4 ⟨Nat.le_of_ble_eq_true rfl, Nat.le_of_ble_eq_true rfl⟩) ?_
      refine lv_icmp_ge (tgt := 33) hx hb dX5_standsAt_7 (by decide) (fun c7 => ?_) (fun c7 => ?_)
      · have c7n : (ftWs j) ≤ k := ft_leN (by omega) (by omega) c7
        have hv9 : ftB (∀ t, t < ftWs j → ftC tx tn (sp + t) = ftLt (nI (100 * j + t))) = 1 := ftB_t (fun t ht => hall t (by omega))
        refine lv_iconst (v := 1) hx hb dX5_standsAt_33 (by decide) ?_
        exact W.zret (v := 1) hx hb hr (by rfl) (fun t ht hW => ⟨1, rfl, (by show (1 : Int32) = ftB (∀ t, t < ftWs j → ftC tx tn (sp + t) = ftLt (nI (100 * j + t))); exact hv9.symm), ht⟩) (fun _ h9 => absurd h9 List.not_mem_nil) dX5_standsAt_34
      · have c7n : k < (ftWs j) := ft_nleN (by omega) (by omega) c7
        refine lv_aload_n hx hb dX5_standsAt_10 rfl (lv_at hl 0 rfl) ?_
        refine lv_iload_n hx hb dX5_standsAt_11 rfl (lv_at hl 2 rfl) ?_
        refine lv_iload_n hx hb dX5_standsAt_12 rfl (lv_at hl 3 rfl) ?_
        refine lv_iadd hx hb dX5_standsAt_13 ?_
        refine ft_top (y := nI (sp + k)) (ft_addN sp k) ?_
        refine ft_csi (r := ftC tx tn (sp + k)) (va_runV (C := RX5) (As := [.int (nI (sp + k))]) (rest := []) ⟨hx, hb, hml, hown, hts⟩ (c_X5_signAt l D cI cS a0 ag am ad b0 tn v1 v2 v3 v4 tx (sp + k) (by first | assumption | omega) (by first | assumption | omega)) (cwV 1 hts gX5_standsAt_X5_signAt rfl rfl rfl (by decide +kernel) ⟨Nat.le_of_ble_eq_true rfl, Nat.le_of_ble_eq_true rfl⟩) (ft_preROV (ci := 5) (q0 := 0) hP hKK [0, 1] rfl rfl rfl) rfl rfl hl.1 rfl (lv_room (Nat.le_of_ble_eq_true rfl)) dX5_standsAt_14 ⟨Nat.le_of_ble_eq_true rfl, Nat.le_of_ble_eq_true rfl⟩) ?_
        refine lv_aload_n hx hb dX5_standsAt_17 rfl (lv_at hl 1 rfl) ?_
        refine lv_iload_n hx hb dX5_standsAt_18 rfl (lv_at hl 3 rfl) ?_
        refine ft_csi (r := ftLt (nI (100 * j + k))) (va_runV (C := RJ0) (As := [.int (nI k)]) (rest := [.int (ftC tx tn (sp + k))]) ⟨hx, hb, hml, hown, hts⟩ (c_J0_charAt_5068e l D cI cS sK sV j k (by first | assumption | omega) (by first | assumption | omega)) (cwV 1 hts gX5_standsAt_J0_charAt_5068e rfl rfl rfl (by decide +kernel) ⟨Nat.le_of_ble_eq_true rfl, Nat.le_of_ble_eq_true rfl⟩) (ft_preJ (a := sK j) hP hKK hSt hS (vk_recv hSt.1 (by omega) hS) [] rfl) rfl rfl hl.1 rfl (lv_room (Nat.le_of_ble_eq_true rfl)) dX5_standsAt_19 ⟨Nat.le_of_ble_eq_true rfl, Nat.le_of_ble_eq_true rfl⟩) ?_
        refine lv_icmp_eq (tgt := 27) hx hb dX5_standsAt_22 (by decide) (fun c22 => ?_) (fun c22 => ?_)
        · refine lv_iinc (v := nI (k + 1)) (lv' := [(3, .int (nI (k + 1))), (0, .ref a0), (1, .ref (sK j)), (2, .int (nI sp))]) hx hb dX5_standsAt_27 hl (k := 3) rfl (ft_inc k) (by decide) rfl (fun ls hl => ?_)
          refine lv_goto (tgt := 2) hx hb dX5_standsAt_30 (by decide) ?_
          exact ih2 (k + 1) (nI (k + 1))  (by omega) (by omega) (by intro t ht; rcases Nat.lt_succ_iff_lt_or_eq.mp ht with q | q; exact hall t q; subst q; exact c22) (by first | rfl | assumption)  ls (lv_sub hl [1, 2, 3, 0] rfl)
        · have hv9 : ftB (∀ t, t < ftWs j → ftC tx tn (sp + t) = ftLt (nI (100 * j + t))) = 0 := ftB_f (fun q => c22 (q k c7n))
          refine lv_iconst (v := 0) hx hb dX5_standsAt_25 (by decide) ?_
          exact W.zret (v := 0) hx hb hr (by rfl) (fun t ht hW => ⟨0, rfl, (by show (0 : Int32) = ftB (∀ t, t < ftWs j → ftC tx tn (sp + t) = ftLt (nI (100 * j + t))); exact hv9.symm), ht⟩) (fun _ h9 => absurd h9 List.not_mem_nil) dX5_standsAt_26
  exact lp2 _ 0 0  (Nat.lt_succ_self _) (by omega) (by intro t ht; exact absurd ht (Nat.not_lt_zero t)) (by rfl) ls (lv_sub hl [1, 2, 3, 0] rfl)
set_option maxHeartbeats 4000000 in
set_option maxRecDepth 100000 in
theorem c_X5_wordAt (l : Launch) (D : va_G) (cI cS : ClassId) (sK sV : Nat → Nat) (a0 ag am ad b0 : Nat) (tn : Nat) (v1 v2 v3 : Int32) (v4 : Int32) (tx : Nat → Int32) (sp : Nat) (htn : tn ≤ 120) (hsp : sp ≤ tn) : Met l yX5_wordAt wsX5_wordAt ({ frames := 6, cells := 0, slots := 0, locals := 138 }) (ftROS D cI cS sK sV [.ref a0, .int (nI sp)] [(a0, .inr (5, [.ref ag, .ref am, .ref ad, .ref b0, .int (nI tn), .int v1, .int v2, .int v3, .int v4])), (ag, .inl (cI, 120, .inl tx))]) (vp_Si (fun o9 => o9 = ftFst (ftCW9 tx tn sp) 6)) 0 0 (fun _ => False) := by
  refine Met.ofW (cc := cX5_wordAt) (maxL := 4) (ret := (some .int)) (by decide) rfl ?_
  intro p e s m args below meth c s₁ B hml hv
  obtain ⟨rfl, hP, hKK, hSt⟩ := hv
  have hS : va_S (fun _ => False) s.heap s.heap [] := va_S.rf
  have hK := hKK.1
  have hx := B.exec
  have hb := B.bytes
  have hr := B.returns
  have hts := atoms_spec (ws := wsX5_wordAt) B.pre
  have hown : s.vm.findClass RX5 = some m.cls := findClass_of_methodNamed B.named
  have hlocks := B.notSynchronized
  have hP : va_P D vwCl [(a0, .inr (5, [.ref ag, .ref am, .ref ad, .ref b0, .int (nI tn), .int v1, .int v2, .int v3, .int v4])), (ag, .inl (cI, 120, .inl tx))] s.heap := hP
  have hl := lv_entry ([.ref a0, .int (nI sp)]) (n := 4) (Nat.le_of_ble_eq_true rfl)
  rw [lg_entry_eq]
  generalize (lg_sl ([.ref a0, .int (nI sp)]) ++ List.replicate (4 - (lg_sl ([.ref a0, .int (nI sp)])).length) Slot.unset).toArray = ls at hl ⊢
  have hl : lv_has ls 4 [(0, .ref a0), (1, .int (nI sp))] := hl
  refine lv_iconst (v := 0) hx hb dX5_wordAt_0 (by decide) ?_
  refine lv_istore_n (lv' := [(2, .int 0), (0, .ref a0), (1, .int (nI sp))]) hx hb dX5_wordAt_1 rfl hl (by decide) rfl (fun ls hl => ?_)
  have lp2 : ∀ (n2 : Nat) (j : Nat) (x2_2 : Int32), 6 - j < n2 → (j ≤ 6) → (∀ i, i < j → ¬ ftCW9 tx tn sp i) → x2_2 = nI j → ∀ ls : Array Slot, lv_has ls 4 [(0, .ref a0), (1, .int (nI sp)), (2, .int x2_2)] → W p l e (headSpec wsX5_wordAt { frames := 6, cells := 0, slots := 0, locals := 138 }).room s m ([.ref a0, .int (nI sp)] : List Value).toArray below meth c s.heap [] 0 0 (MQ below (vp_Si (fun o9 => o9 = ftFst (ftCW9 tx tn sp) 6)) ([.ref a0, .int (nI sp)] : List Value).toArray s 0 0 (fun _ => False)) (F0 m 2 ls []) := by
    intro n2
    induction n2 with
    | zero =>
      intro j x2_2  hm2
      exact absurd hm2 (Nat.not_lt_zero _)
    | succ n2 ih2 =>
      intro j x2_2  hm2 hj6 hno ex2_2  ls hl
      subst ex2_2
      refine lv_iload_n hx hb dX5_wordAt_2 rfl (lv_at hl 2 rfl) ?_
      refine lv_bipush (v := 6) hx hb dX5_wordAt_3 (by decide) ?_
      refine lv_icmp_ge (tgt := 46) hx hb dX5_wordAt_5 (by decide) (fun c5 => ?_) (fun c5 => ?_)
      · have c5n : 6 ≤ j := ft_leN (by omega) (by omega) c5
        refine lv_iconst (v := (-1)) hx hb dX5_wordAt_46 (by decide) ?_
        exact W.iret (v := (-1)) hx hb hr (fun t ht hW => ⟨(-1), rfl, (by show ((-1) : Int32) = ftFst (ftCW9 tx tn sp) 6; (obtain rfl : j = 6 := by omega); exact (ftFst_none hno).symm), ht⟩) (fun _ h9 => absurd h9 List.not_mem_nil) dX5_wordAt_47
      · have c5n : j < 6 := ft_nleN (by omega) (by omega) c5
        refine lv_iload_n hx hb dX5_wordAt_8 rfl (lv_at hl 2 rfl) ?_
        refine ft_csr (r := sK j) (va_runS (As := [.int (nI j)]) (rest := []) ⟨hx, hb, hml, hown, hts⟩ (c_X5_nameOf l D cI cS sK sV j (by first | assumption | omega)) (va_cwS 1 hts gX5_wordAt_X5_nameOf rfl rfl rfl (by decide +kernel) ⟨Nat.le_of_ble_eq_true rfl, Nat.le_of_ble_eq_true rfl⟩) (ft_preROS hP hKK hSt hS [] rfl) rfl rfl hl.1 rfl (lv_room (Nat.le_of_ble_eq_true rfl)) dX5_wordAt_9 ⟨Nat.le_of_ble_eq_true rfl, Nat.le_of_ble_eq_true rfl⟩) ?_
        have hw11 := ftWs_le j
        refine lv_astore_n (lv' := [(3, .ref (sK j)), (0, .ref a0), (1, .int (nI sp)), (2, .int (nI j))]) hx hb dX5_wordAt_12 rfl hl (by decide) rfl (fun ls hl => ?_)
        refine lv_aload_n hx hb dX5_wordAt_13 rfl (lv_at hl 1 rfl) ?_
        refine lv_aload_n hx hb dX5_wordAt_14 rfl (lv_at hl 0 rfl) ?_
        refine lv_iload_n hx hb dX5_wordAt_15 rfl (lv_at hl 2 rfl) ?_
        refine ft_csi (r := ftB (∀ t, t < ftWs j → ftC tx tn (sp + t) = ftLt (nI (100 * j + t)))) (va_runV (C := RX5) (As := [.ref (sK j), .int (nI sp)]) (rest := []) ⟨hx, hb, hml, hown, hts⟩ (c_X5_standsAt l D cI cS sK sV a0 ag am ad b0 tn v1 v2 v3 v4 tx j sp (by first | assumption | omega) (by first | assumption | omega) (by first | assumption | omega)) (cwV 2 hts gX5_wordAt_X5_standsAt rfl rfl rfl (by decide +kernel) ⟨Nat.le_of_ble_eq_true rfl, Nat.le_of_ble_eq_true rfl⟩) (ft_preROVS (ci := 5) (q0 := 0) hP hKK hSt hS [0, 1] rfl rfl rfl) rfl rfl hl.1 rfl (lv_room (Nat.le_of_ble_eq_true rfl)) dX5_wordAt_16 ⟨Nat.le_of_ble_eq_true rfl, Nat.le_of_ble_eq_true rfl⟩) ?_
        refine lv_if_eq (tgt := 40) hx hb dX5_wordAt_19 (by decide) (fun c19 => ?_) (fun c19 => ?_)
        · replace c19 := ftB_eq c19
          have hn9 : ¬ ftCW9 tx tn sp j := fun q => c19 q.1
          refine lv_iinc (v := nI (j + 1)) (lv' := [(2, .int (nI (j + 1))), (3, .ref (sK j)), (0, .ref a0), (1, .int (nI sp))]) hx hb dX5_wordAt_40 hl (k := 3) rfl (ft_inc j) (by decide) rfl (fun ls hl => ?_)
          refine lv_goto (tgt := 2) hx hb dX5_wordAt_43 (by decide) ?_
          exact ih2 (j + 1) (nI (j + 1))  (by omega) (by omega) (by intro i hi; rcases Nat.lt_succ_iff_lt_or_eq.mp hi with q | q; exact hno i q; subst q; exact hn9) (by first | rfl | assumption)  ls (lv_sub hl [2, 3, 0] rfl)
        · replace c19 := ftB_ne c19
          refine lv_aload_n hx hb dX5_wordAt_22 rfl (lv_at hl 1 rfl) ?_
          refine lv_iload_n hx hb dX5_wordAt_23 rfl (lv_at hl 2 rfl) ?_
          refine lv_aload_n hx hb dX5_wordAt_24 rfl (lv_at hl 0 rfl) ?_
          refine ft_csi (r := nI (ftWs j)) (va_runV (C := RJ0) (As := []) (rest := [.int (nI sp), .ref a0]) ⟨hx, hb, hml, hown, hts⟩ (c_J0_length_8abf5 l D cI cS sK sV j (by first | assumption | omega)) (cwV 0 hts gX5_wordAt_J0_length_8abf5 rfl rfl rfl (by decide +kernel) ⟨Nat.le_of_ble_eq_true rfl, Nat.le_of_ble_eq_true rfl⟩) (ft_preJ (a := sK j) hP hKK hSt hS (vk_recv hSt.1 (by omega) hS) [] rfl) rfl rfl hl.1 rfl (lv_room (Nat.le_of_ble_eq_true rfl)) dX5_wordAt_25 ⟨Nat.le_of_ble_eq_true rfl, Nat.le_of_ble_eq_true rfl⟩) ?_
          refine lv_iadd hx hb dX5_wordAt_28 ?_
          refine ft_top (y := nI (sp + (ftWs j))) (ft_addN sp (ftWs j)) ?_
          refine ft_csi (r := ftC tx tn (sp + (ftWs j))) (va_runV (C := RX5) (As := [.int (nI (sp + (ftWs j)))]) (rest := []) ⟨hx, hb, hml, hown, hts⟩ (c_X5_signAt l D cI cS a0 ag am ad b0 tn v1 v2 v3 v4 tx (sp + (ftWs j)) (by first | assumption | omega) (by first | assumption | omega)) (cwV 1 hts gX5_wordAt_X5_signAt rfl rfl rfl (by decide +kernel) ⟨Nat.le_of_ble_eq_true rfl, Nat.le_of_ble_eq_true rfl⟩) (ft_preROV (ci := 5) (q0 := 0) hP hKK [0, 1] rfl rfl rfl) rfl rfl hl.1 rfl (lv_room (Nat.le_of_ble_eq_true rfl)) dX5_wordAt_29 ⟨Nat.le_of_ble_eq_true rfl, Nat.le_of_ble_eq_true rfl⟩) ?_
          refine ft_csi (r := ftB (ftLet (ftC tx tn (sp + (ftWs j))))) (va_runS (As := [.int (ftC tx tn (sp + (ftWs j)))]) (rest := []) ⟨hx, hb, hml, hown, hts⟩ (c_X5_isLetter l D cI cS (ftC tx tn (sp + (ftWs j)))) (va_cwS 1 hts gX5_wordAt_X5_isLetter rfl rfl rfl (by decide +kernel) ⟨Nat.le_of_ble_eq_true rfl, Nat.le_of_ble_eq_true rfl⟩) (ft_preRO hP hKK [] rfl) rfl rfl hl.1 rfl (lv_room (Nat.le_of_ble_eq_true rfl)) dX5_wordAt_32 ⟨Nat.le_of_ble_eq_true rfl, Nat.le_of_ble_eq_true rfl⟩) ?_
          refine lv_if_ne (tgt := 40) hx hb dX5_wordAt_35 (by decide) (fun c35 => ?_) (fun c35 => ?_)
          · replace c35 := ftB_ne c35
            have hn9 : ¬ ftCW9 tx tn sp j := fun q => q.2 c35
            refine lv_iinc (v := nI (j + 1)) (lv' := [(2, .int (nI (j + 1))), (3, .ref (sK j)), (0, .ref a0), (1, .int (nI sp))]) hx hb dX5_wordAt_40 hl (k := 3) rfl (ft_inc j) (by decide) rfl (fun ls hl => ?_)
            refine lv_goto (tgt := 2) hx hb dX5_wordAt_43 (by decide) ?_
            exact ih2 (j + 1) (nI (j + 1))  (by omega) (by omega) (by intro i hi; rcases Nat.lt_succ_iff_lt_or_eq.mp hi with q | q; exact hno i q; subst q; exact hn9) (by first | rfl | assumption)  ls (lv_sub hl [2, 3, 0] rfl)
          · replace c35 := ftB_eq c35
            have hy9 : ftCW9 tx tn sp j := ⟨c19, c35⟩
            refine lv_iload_n hx hb dX5_wordAt_38 rfl (lv_at hl 3 rfl) ?_
            exact W.iret (v := nI j) hx hb hr (fun t ht hW => ⟨nI j, rfl, (by show (nI j : Int32) = ftFst (ftCW9 tx tn sp) 6; exact (ftFst_some (by omega) hy9 hno 6 (by omega)).symm), ht⟩) (fun _ h9 => absurd h9 List.not_mem_nil) dX5_wordAt_39
  exact lp2 _ 0 0  (Nat.lt_succ_self _) (by omega) (by intro i hi; exact absurd hi (Nat.not_lt_zero i)) (by rfl) ls (lv_sub hl [1, 2, 0] rfl)
set_option maxHeartbeats 4000000 in
set_option maxRecDepth 100000 in
theorem c_X5_readNumber (l : Launch) (D : va_G) (cI cS : ClassId) (sz : Nat) (a0 ag am ad b0 : Nat) (tn : Nat) (v1 v2 v3 : Int32) (sp : Nat) (tx nf : Nat → Int32) (i : Nat) (htn : tn ≤ 120) (hsp : sp ≤ tn) (hi : i < 3) : Met l yX5_readNumber wsX5_readNumber ({ frames := 2, cells := 0, slots := 0, locals := 42 }) (ftRW D cI cS [.ref a0, .int (nI i)] [(a0, .inr (5, [.ref ag, .ref am, .ref ad, .ref b0, .int (nI tn), .int v1, .int v2, .int v3, .int (nI sp)])), (ag, .inl (cI, 120, .inl tx)), (am, .inl (cI, 3, .inl nf))] sz) (ftQi D (ftB (ftNok tx tn sp)) [(a0, .inr (5, [.ref ag, .ref am, .ref ad, .ref b0, .int (nI tn), .int v1, .int v2, .int v3, .int (nI sp)])), (ag, .inl (cI, 120, .inl tx)), (am, .inl (cI, 3, .inl nf))] [(a0, .inr (5, [.ref ag, .ref am, .ref ad, .ref b0, .int (nI tn), .int v1, .int v2, .int v3, .int (nI (ftNe tx tn sp))])), (ag, .inl (cI, 120, .inl tx)), (am, .inl (cI, 3, .inl (ftNf tx tn sp i nf)))] sz) 0 0 (va_A [(a0, .inr (5, [.ref ag, .ref am, .ref ad, .ref b0, .int (nI tn), .int v1, .int v2, .int v3, .int (nI sp)])), (ag, .inl (cI, 120, .inl tx)), (am, .inl (cI, 3, .inl nf))] sz) := by
  refine Met.ofW (cc := cX5_readNumber) (maxL := 5) (ret := (some .boolean)) (by decide) rfl ?_
  intro p e s m args below meth c s₁ B hml hv
  obtain ⟨rfl, hsz, hP, hKK, hD0⟩ := hv
  have hK := hKK.1
  have hx := B.exec
  have hb := B.bytes
  have hr := B.returns
  have hts := atoms_spec (ws := wsX5_readNumber) B.pre
  have hown : s.vm.findClass RX5 = some m.cls := findClass_of_methodNamed B.named
  have hlocks := B.notSynchronized
  subst hsz
  have hD := hD0.self (sz := s.heap.size)
  generalize hAe : va_A [(a0, .inr (5, [.ref ag, .ref am, .ref ad, .ref b0, .int (nI tn), .int v1, .int v2, .int v3, .int (nI sp)])), (ag, .inl (cI, 120, .inl tx)), (am, .inl (cI, 3, .inl nf))] s.heap.size = A at hD ⊢
  have hA : ∀ q : Nat, s.heap.size ≤ q → A q := fun q h => by rw [← hAe]; exact Or.inr h
  have hS : va_S A s.heap s.heap [] := va_S.rf
  have hD : va_D A [(a0, .inr (5, [.ref ag, .ref am, .ref ad, .ref b0, .int (nI tn), .int v1, .int v2, .int v3, .int (nI sp)])), (ag, .inl (cI, 120, .inl tx)), (am, .inl (cI, 3, .inl nf))] := hD
  have hP : va_P D vwCl [(a0, .inr (5, [.ref ag, .ref am, .ref ad, .ref b0, .int (nI tn), .int v1, .int v2, .int v3, .int (nI sp)])), (ag, .inl (cI, 120, .inl tx)), (am, .inl (cI, 3, .inl nf))] s.heap := hP
  have hl := lv_entry ([.ref a0, .int (nI i)]) (n := 5) (Nat.le_of_ble_eq_true rfl)
  rw [lg_entry_eq]
  generalize (lg_sl ([.ref a0, .int (nI i)]) ++ List.replicate (5 - (lg_sl ([.ref a0, .int (nI i)])).length) Slot.unset).toArray = ls at hl ⊢
  have hl : lv_has ls 5 [(0, .ref a0), (1, .int (nI i))] := hl
  refine lv_aload_n hx hb dX5_readNumber_0 rfl (lv_at hl 0 rfl) ?_
  refine lv_aload_n hx hb dX5_readNumber_1 rfl (lv_at hl 0 rfl) ?_
  refine va_get (D := D) (ci := 5) (v := .int (nI sp)) (C := RX5) (T := TX5) (N := 9) hx hb hts (by decide +kernel) hown hK hP 0 rfl rfl 8 (by decide) (hts (.fieldLink RX5 42 "FiberTrace$LinkText" "position" "I") (by decide +kernel)) (fun _ h9 => h9) rfl dX5_readNumber_2 ?_
  refine ft_csi (r := ftC tx tn sp) (va_runV (C := RX5) (As := [.int (nI sp)]) (rest := []) ⟨hx, hb, hml, hown, hts⟩ (c_X5_signAt l D cI cS a0 ag am ad b0 tn v1 v2 v3 (nI sp) tx sp (by first | assumption | omega) (by first | assumption | omega)) (cwV 1 hts gX5_readNumber_X5_signAt rfl rfl rfl (by decide +kernel) ⟨Nat.le_of_ble_eq_true rfl, Nat.le_of_ble_eq_true rfl⟩) (ft_preROV (ci := 5) (q0 := 0) hP hKK [0, 1] rfl rfl rfl) rfl rfl hl.1 rfl (lv_room (Nat.le_of_ble_eq_true rfl)) dX5_readNumber_5 ⟨Nat.le_of_ble_eq_true rfl, Nat.le_of_ble_eq_true rfl⟩) ?_
  refine lv_bipush (v := 32) hx hb dX5_readNumber_8 (by decide) ?_
  refine lv_icmp_eq (tgt := 15) hx hb dX5_readNumber_10 (by decide) (fun c10 => ?_) (fun c10 => ?_)
  · have hsq : ftSp tx tn sp := ftSp_c.mpr c10
    have hlt9 := hsq.1
    refine lv_aload_n hx hb dX5_readNumber_15 rfl (lv_at hl 0 rfl) ?_
    refine lv_dup hx hb dX5_readNumber_16 rfl ?_
    refine va_get (D := D) (ci := 5) (v := .int (nI sp)) (C := RX5) (T := TX5) (N := 9) hx hb hts (by decide +kernel) hown hK hP 0 rfl rfl 8 (by decide) (hts (.fieldLink RX5 42 "FiberTrace$LinkText" "position" "I") (by decide +kernel)) (fun _ h9 => h9) rfl dX5_readNumber_17 ?_
    refine lv_iconst (v := 1) hx hb dX5_readNumber_20 (by decide) ?_
    refine lv_iadd hx hb dX5_readNumber_21 ?_
    refine ft_top (y := nI (sp + 1)) (ft_addN sp 1) ?_
    refine va_put (D := D) (ci := 5) (v := .int (nI (sp + 1))) (ty := .int) (C := RX5) (T := TX5) (N := 9) hx hb hts (by decide +kernel) tyX5 tyX5_ok nmX5 hown hK hP hD hS 0 rfl rfl 8 (by decide) (hts (.fieldLink RX5 42 "FiberTrace$LinkText" "position" "I") (by decide +kernel)) (fun _ h9 => h9) rfl (by decide +kernel) rfl rfl (Nat.le_of_ble_eq_true rfl) dX5_readNumber_22 (fun H locs hP hD hS => ?_)
    have hP : va_P D vwCl [(a0, .inr (5, [.ref ag, .ref am, .ref ad, .ref b0, .int (nI tn), .int v1, .int v2, .int v3, .int (nI (sp + 1))])), (ag, .inl (cI, 120, .inl tx)), (am, .inl (cI, 3, .inl nf))] H := hP
    have hD : va_D A [(a0, .inr (5, [.ref ag, .ref am, .ref ad, .ref b0, .int (nI tn), .int v1, .int v2, .int v3, .int (nI (sp + 1))])), (ag, .inl (cI, 120, .inl tx)), (am, .inl (cI, 3, .inl nf))] := hD
    refine lv_aload_n hx hb dX5_readNumber_25 rfl (lv_at hl 0 rfl) ?_
    refine lv_aload_n hx hb dX5_readNumber_26 rfl (lv_at hl 0 rfl) ?_
    refine va_get (D := D) (ci := 5) (v := .int (nI (sp + 1))) (C := RX5) (T := TX5) (N := 9) hx hb hts (by decide +kernel) hown hK hP 0 rfl rfl 8 (by decide) (hts (.fieldLink RX5 42 "FiberTrace$LinkText" "position" "I") (by decide +kernel)) (fun _ h9 => h9) rfl dX5_readNumber_27 ?_
    refine ft_csi (r := ftC tx tn (sp + 1)) (va_runV (C := RX5) (As := [.int (nI (sp + 1))]) (rest := []) ⟨hx, hb, hml, hown, hts⟩ (c_X5_signAt l D cI cS a0 ag am ad b0 tn v1 v2 v3 (nI (sp + 1)) tx (sp + 1) (by first | assumption | omega) (by first | assumption | omega)) (cwV 1 hts gX5_readNumber_X5_signAt rfl rfl rfl (by decide +kernel) ⟨Nat.le_of_ble_eq_true rfl, Nat.le_of_ble_eq_true rfl⟩) (ft_preROV (ci := 5) (q0 := 0) hP hKK [0, 1] rfl rfl rfl) rfl rfl hl.1 rfl (lv_room (Nat.le_of_ble_eq_true rfl)) dX5_readNumber_30 ⟨Nat.le_of_ble_eq_true rfl, Nat.le_of_ble_eq_true rfl⟩) ?_
    refine lv_bipush (v := 45) hx hb dX5_readNumber_33 (by decide) ?_
    refine lv_icmp_ne (tgt := 42) hx hb dX5_readNumber_35 (by decide) (fun c35 => ?_) (fun c35 => ?_)
    · have hng : ¬ ftNg tx tn sp := fun q => c35 (ftNg_c.mp q)
      have hq8 : ftNq tx tn sp = sp + 1 := ftNq_f hng
      refine lv_iconst (v := 0) hx hb dX5_readNumber_42 (by decide) ?_
      refine lv_istore_n (lv' := [(2, .int 0), (0, .ref a0), (1, .int (nI i))]) hx hb dX5_readNumber_43 rfl hl (by decide) rfl (fun ls hl => ?_)
      refine lv_iload_n hx hb dX5_readNumber_44 rfl (lv_at hl 0 rfl) ?_
      refine lv_if_eq (tgt := 58) hx hb dX5_readNumber_45 (by decide) (fun c45 => ?_) (fun c45 => ?_)
      · obtain ⟨q9, hq9⟩ : ∃ q9, q9 = sp + 1 := ⟨_, rfl⟩
        have hqq : ftNq tx tn sp = q9 := by rw [hq9]; exact hq8
        have hqn : q9 ≤ tn := by omega
        refine lv_iconst (v := 0) hx hb dX5_readNumber_58 (by decide) ?_
        refine lv_istore_n (lv' := [(3, .int 0), (2, .int 0), (0, .ref a0), (1, .int (nI i))]) hx hb dX5_readNumber_59 rfl hl (by decide) rfl (fun ls hl => ?_)
        refine lv_iconst (v := 0) hx hb dX5_readNumber_60 (by decide) ?_
        refine lv_istore (lv' := [(4, .int 0), (3, .int 0), (2, .int 0), (0, .ref a0), (1, .int (nI i))]) hx hb dX5_readNumber_61 hl (by decide) rfl (fun ls hl => ?_)
        have lp63 : ∀ (n63 : Nat) (k : Nat) (x63_3 : Int32) (x63_4 : Int32) (g63_a0_8 : Int32), 5 - k < n63 → (k ≤ 5) → (∀ t, t < k → ftDp tx tn q9 t) → (q9 + k ≤ tn) → x63_3 = ftDg tx q9 k → x63_4 = nI k → g63_a0_8 = nI (q9 + k) → ∀ (H : Heap) (locs : List Loc), va_P D vwCl [(a0, .inr (5, [.ref ag, .ref am, .ref ad, .ref b0, .int (nI tn), .int v1, .int v2, .int v3, .int g63_a0_8])), (ag, .inl (cI, 120, .inl tx)), (am, .inl (cI, 3, .inl nf))] H → va_D A [(a0, .inr (5, [.ref ag, .ref am, .ref ad, .ref b0, .int (nI tn), .int v1, .int v2, .int v3, .int g63_a0_8])), (ag, .inl (cI, 120, .inl tx)), (am, .inl (cI, 3, .inl nf))] → va_S A s.heap H locs → ∀ ls : Array Slot, lv_has ls 5 [(0, .ref a0), (1, .int (nI i)), (2, .int 0), (3, .int x63_3), (4, .int x63_4)] → W p l e (headSpec wsX5_readNumber { frames := 2, cells := 0, slots := 0, locals := 42 }).room s m ([.ref a0, .int (nI i)] : List Value).toArray below meth c H locs 0 0 (MQ below (ftQi D (ftB (ftNok tx tn sp)) [(a0, .inr (5, [.ref ag, .ref am, .ref ad, .ref b0, .int (nI tn), .int v1, .int v2, .int v3, .int (nI sp)])), (ag, .inl (cI, 120, .inl tx)), (am, .inl (cI, 3, .inl nf))] [(a0, .inr (5, [.ref ag, .ref am, .ref ad, .ref b0, .int (nI tn), .int v1, .int v2, .int v3, .int (nI (ftNe tx tn sp))])), (ag, .inl (cI, 120, .inl tx)), (am, .inl (cI, 3, .inl (ftNf tx tn sp i nf)))] s.heap.size) ([.ref a0, .int (nI i)] : List Value).toArray s 0 0 A) (F0 m 63 ls []) := by
          intro n63
          induction n63 with
          | zero =>
            intro k x63_3 x63_4 g63_a0_8 hm63
            exact absurd hm63 (Nat.not_lt_zero _)
          | succ n63 ih63 =>
            intro k x63_3 x63_4 g63_a0_8 hm63 hk5 hall hqk ex63_3 ex63_4 eg63_a0_8 H locs hP hD hS ls hl
            subst ex63_4
            subst eg63_a0_8
            refine lv_iload hx hb dX5_readNumber_63 (lv_at hl 4 rfl) ?_
            refine lv_iconst (v := 5) hx hb dX5_readNumber_65 (by decide) ?_
            refine lv_icmp_ge (tgt := 120) hx hb dX5_readNumber_66 (by decide) (fun c66 => ?_) (fun c66 => ?_)
            · have c66n : 5 ≤ k := ft_leN (by omega) (by omega) c66
              have hm : ftNd tx tn q9 = k := ftIni_of (by omega) hall (fun h => absurd h (by omega))
              refine lv_aload_n hx hb dX5_readNumber_120 rfl (lv_at hl 0 rfl) ?_
              refine va_get (D := D) (ci := 5) (v := .ref am) (C := RX5) (T := TX5) (N := 9) hx hb hts (by decide +kernel) hown hK hP 0 rfl rfl 1 (by decide) (hts (.fieldLink RX5 15 "FiberTrace$LinkText" "numbers" "[I") (by decide +kernel)) (fun _ h9 => h9) rfl dX5_readNumber_121 ?_
              refine lv_iload_n hx hb dX5_readNumber_124 rfl (lv_at hl 1 rfl) ?_
              refine lv_iload_n hx hb dX5_readNumber_125 rfl (lv_at hl 2 rfl) ?_
              refine lv_if_eq (tgt := 134) hx hb dX5_readNumber_126 (by decide) (fun c126 => ?_) (fun c126 => ?_)
              · refine lv_iload_n hx hb dX5_readNumber_134 rfl (lv_at hl 3 rfl) ?_
                refine ft_cv (wc := [(am, .inl (cI, 3, .inl nf))]) (wr := [(a0, .inr (5, [.ref ag, .ref am, .ref ad, .ref b0, .int (nI tn), .int v1, .int v2, .int v3, .int (nI (q9 + k))])), (ag, .inl (cI, 120, .inl tx))]) (w1 := [(am, .inl (cI, 3, .inl (ftPut 3 nf (nI i) x63_3)))]) (ws1 := [(a0, .inr (5, [.ref ag, .ref am, .ref ad, .ref b0, .int (nI tn), .int v1, .int v2, .int v3, .int (nI (q9 + k))])), (ag, .inl (cI, 120, .inl tx)), (am, .inl (cI, 3, .inl (ftPut 3 nf (nI i) x63_3)))]) (va_runSN (As := [.ref am, .int (nI i), .int x63_3]) (rest := []) ⟨hx, hb, hml, hown, hts⟩ (c_X10_put l D cI cS H.size am 3 nf (nI i) x63_3 (by first | assumption | omega)) ⟨va_cnB 3 hts gX5_readNumber_X10_put_n32 rfl rfl rfl (hKK.2 _ (List.mem_of_getElem? (i := 7) rfl)) (hts (.initialized RX10) (by decide +kernel)) (by decide +kernel) ⟨Nat.le_of_ble_eq_true rfl, Nat.le_of_ble_eq_true rfl⟩, hts (.static yX10_put) (by decide +kernel), trivial⟩ (ft_preRW hP hD hKK [2] rfl rfl rfl) rfl rfl hl.1 rfl (lv_room (Nat.le_of_ble_eq_true rfl)) dX5_readNumber_135 ⟨Nat.le_of_ble_eq_true rfl, Nat.le_of_ble_eq_true rfl⟩) hP hD hS hA [2] [0, 1] [0, 1, 2] rfl rfl (by decide) (by decide) (by decide) rfl rfl (fun H locs hP hD hS => ?_)
                rw [ftPut_N (k := i) (by omega) (by omega)] at hP hD
                have hP : va_P D vwCl [(a0, .inr (5, [.ref ag, .ref am, .ref ad, .ref b0, .int (nI tn), .int v1, .int v2, .int v3, .int (nI (q9 + k))])), (ag, .inl (cI, 120, .inl tx)), (am, .inl (cI, 3, .inl (upd nf i x63_3)))] H := hP
                have hD : va_D A [(a0, .inr (5, [.ref ag, .ref am, .ref ad, .ref b0, .int (nI tn), .int v1, .int v2, .int v3, .int (nI (q9 + k))])), (ag, .inl (cI, 120, .inl tx)), (am, .inl (cI, 3, .inl (upd nf i x63_3)))] := hD
                refine lv_iload hx hb dX5_readNumber_138 (lv_at hl 4 rfl) ?_
                refine lv_if_le (tgt := 147) hx hb dX5_readNumber_140 (by decide) (fun c140 => ?_) (fun c140 => ?_)
                · have c140n : k ≤ 0 := ft_leN (by omega) (by omega) c140
                  have hok9 : ftB (ftNok tx tn sp) = 0 := ftB_f (fun q => by have q2 := q.2; rw [hqq, hm] at q2; omega)
                  refine lv_iconst (v := 0) hx hb dX5_readNumber_147 (by decide) ?_
                  have hw9 : ([(a0, .inr (5, [.ref ag, .ref am, .ref ad, .ref b0, .int (nI tn), .int v1, .int v2, .int v3, .int (nI (q9 + k))])), (ag, .inl (cI, 120, .inl tx)), (am, .inl (cI, 3, .inl (upd nf i x63_3)))] : va_W) = [(a0, .inr (5, [.ref ag, .ref am, .ref ad, .ref b0, .int (nI tn), .int v1, .int v2, .int v3, .int (nI (ftNe tx tn sp))])), (ag, .inl (cI, 120, .inl tx)), (am, .inl (cI, 3, .inl (ftNf tx tn sp i nf)))] := by rw [ftNe_t hsq, ftNf_t hsq, hqq, hm]; first | (rw [ftNv_t hng, hqq, hm, ex63_3, ft_neg1]; done) | (rw [ftNv_f hng, hqq, hm, ex63_3, Int32.one_mul]; done)
                  rw [hw9] at hP hD
                  exact W.zret (v := 0) hx hb hr (by rfl) (fun t ht hW => ⟨⟨0, (), rfl, (by show (0 : Int32) = ftB (ftNok tx tn sp); exact hok9.symm), by rw [ht]; exact hP, by rw [hAe]; exact hD⟩, by rw [hAe]; exact hS.F ht⟩) hS.2.2 dX5_readNumber_148
                · have c140n : 0 < k := ft_nleN (by omega) (by omega) c140
                  have hok9 : ftB (ftNok tx tn sp) = 1 := ftB_t ⟨hsq, by rw [hqq, hm]; omega⟩
                  refine lv_iconst (v := 1) hx hb dX5_readNumber_143 (by decide) ?_
                  refine lv_goto (tgt := 148) hx hb dX5_readNumber_144 (by decide) ?_
                  have hw9 : ([(a0, .inr (5, [.ref ag, .ref am, .ref ad, .ref b0, .int (nI tn), .int v1, .int v2, .int v3, .int (nI (q9 + k))])), (ag, .inl (cI, 120, .inl tx)), (am, .inl (cI, 3, .inl (upd nf i x63_3)))] : va_W) = [(a0, .inr (5, [.ref ag, .ref am, .ref ad, .ref b0, .int (nI tn), .int v1, .int v2, .int v3, .int (nI (ftNe tx tn sp))])), (ag, .inl (cI, 120, .inl tx)), (am, .inl (cI, 3, .inl (ftNf tx tn sp i nf)))] := by rw [ftNe_t hsq, ftNf_t hsq, hqq, hm]; first | (rw [ftNv_t hng, hqq, hm, ex63_3, ft_neg1]; done) | (rw [ftNv_f hng, hqq, hm, ex63_3, Int32.one_mul]; done)
                  rw [hw9] at hP hD
                  exact W.zret (v := 1) hx hb hr (by rfl) (fun t ht hW => ⟨⟨1, (), rfl, (by show (1 : Int32) = ftB (ftNok tx tn sp); exact hok9.symm), by rw [ht]; exact hP, by rw [hAe]; exact hD⟩, by rw [hAe]; exact hS.F ht⟩) hS.2.2 dX5_readNumber_148
              · exact absurd rfl c126
            · have c66n : k < 5 := ft_nleN (by omega) (by omega) c66
              refine lv_aload_n hx hb dX5_readNumber_69 rfl (lv_at hl 0 rfl) ?_
              refine lv_aload_n hx hb dX5_readNumber_70 rfl (lv_at hl 0 rfl) ?_
              refine va_get (D := D) (ci := 5) (v := .int (nI (q9 + k))) (C := RX5) (T := TX5) (N := 9) hx hb hts (by decide +kernel) hown hK hP 0 rfl rfl 8 (by decide) (hts (.fieldLink RX5 42 "FiberTrace$LinkText" "position" "I") (by decide +kernel)) (fun _ h9 => h9) rfl dX5_readNumber_71 ?_
              refine ft_csi (r := ftC tx tn (q9 + k)) (va_runV (C := RX5) (As := [.int (nI (q9 + k))]) (rest := []) ⟨hx, hb, hml, hown, hts⟩ (c_X5_signAt l D cI cS a0 ag am ad b0 tn v1 v2 v3 (nI (q9 + k)) tx (q9 + k) (by first | assumption | omega) (by first | assumption | omega)) (cwV 1 hts gX5_readNumber_X5_signAt rfl rfl rfl (by decide +kernel) ⟨Nat.le_of_ble_eq_true rfl, Nat.le_of_ble_eq_true rfl⟩) (ft_preROV (ci := 5) (q0 := 0) hP hKK [0, 1] rfl rfl rfl) rfl rfl hl.1 rfl (lv_room (Nat.le_of_ble_eq_true rfl)) dX5_readNumber_74 ⟨Nat.le_of_ble_eq_true rfl, Nat.le_of_ble_eq_true rfl⟩) ?_
              refine lv_bipush (v := 48) hx hb dX5_readNumber_77 (by decide) ?_
              refine lv_bipush (v := 57) hx hb dX5_readNumber_79 (by decide) ?_
              refine ft_csi (r := ftB (48 ≤ (ftC tx tn (q9 + k)) ∧ (ftC tx tn (q9 + k)) ≤ 57)) (va_runSN (As := [.int (ftC tx tn (q9 + k)), .int 48, .int 57]) (rest := []) ⟨hx, hb, hml, hown, hts⟩ (c_X10_isWithin l D cI cS (ftC tx tn (q9 + k)) 48 57) ⟨va_cnB 3 hts gX5_readNumber_X10_isWithin_n115 rfl rfl rfl (hKK.2 _ (List.mem_of_getElem? (i := 9) rfl)) (hts (.initialized RX10) (by decide +kernel)) (by decide +kernel) ⟨Nat.le_of_ble_eq_true rfl, Nat.le_of_ble_eq_true rfl⟩, hts (.static yX10_isWithin) (by decide +kernel), trivial⟩ (ft_preRO hP hKK [] rfl) rfl rfl hl.1 rfl (lv_room (Nat.le_of_ble_eq_true rfl)) dX5_readNumber_81 ⟨Nat.le_of_ble_eq_true rfl, Nat.le_of_ble_eq_true rfl⟩) ?_
              refine lv_if_eq (tgt := 120) hx hb dX5_readNumber_84 (by decide) (fun c84 => ?_) (fun c84 => ?_)
              · replace c84 := ftB_eq c84
                have hm : ftNd tx tn q9 = k := ftIni_of (by omega) hall (fun _ q => c84 (ftDp_c.mp q))
                refine lv_aload_n hx hb dX5_readNumber_120 rfl (lv_at hl 0 rfl) ?_
                refine va_get (D := D) (ci := 5) (v := .ref am) (C := RX5) (T := TX5) (N := 9) hx hb hts (by decide +kernel) hown hK hP 0 rfl rfl 1 (by decide) (hts (.fieldLink RX5 15 "FiberTrace$LinkText" "numbers" "[I") (by decide +kernel)) (fun _ h9 => h9) rfl dX5_readNumber_121 ?_
                refine lv_iload_n hx hb dX5_readNumber_124 rfl (lv_at hl 1 rfl) ?_
                refine lv_iload_n hx hb dX5_readNumber_125 rfl (lv_at hl 2 rfl) ?_
                refine lv_if_eq (tgt := 134) hx hb dX5_readNumber_126 (by decide) (fun c126 => ?_) (fun c126 => ?_)
                · refine lv_iload_n hx hb dX5_readNumber_134 rfl (lv_at hl 3 rfl) ?_
                  refine ft_cv (wc := [(am, .inl (cI, 3, .inl nf))]) (wr := [(a0, .inr (5, [.ref ag, .ref am, .ref ad, .ref b0, .int (nI tn), .int v1, .int v2, .int v3, .int (nI (q9 + k))])), (ag, .inl (cI, 120, .inl tx))]) (w1 := [(am, .inl (cI, 3, .inl (ftPut 3 nf (nI i) x63_3)))]) (ws1 := [(a0, .inr (5, [.ref ag, .ref am, .ref ad, .ref b0, .int (nI tn), .int v1, .int v2, .int v3, .int (nI (q9 + k))])), (ag, .inl (cI, 120, .inl tx)), (am, .inl (cI, 3, .inl (ftPut 3 nf (nI i) x63_3)))]) (va_runSN (As := [.ref am, .int (nI i), .int x63_3]) (rest := []) ⟨hx, hb, hml, hown, hts⟩ (c_X10_put l D cI cS H.size am 3 nf (nI i) x63_3 (by first | assumption | omega)) ⟨va_cnB 3 hts gX5_readNumber_X10_put_n32 rfl rfl rfl (hKK.2 _ (List.mem_of_getElem? (i := 7) rfl)) (hts (.initialized RX10) (by decide +kernel)) (by decide +kernel) ⟨Nat.le_of_ble_eq_true rfl, Nat.le_of_ble_eq_true rfl⟩, hts (.static yX10_put) (by decide +kernel), trivial⟩ (ft_preRW hP hD hKK [2] rfl rfl rfl) rfl rfl hl.1 rfl (lv_room (Nat.le_of_ble_eq_true rfl)) dX5_readNumber_135 ⟨Nat.le_of_ble_eq_true rfl, Nat.le_of_ble_eq_true rfl⟩) hP hD hS hA [2] [0, 1] [0, 1, 2] rfl rfl (by decide) (by decide) (by decide) rfl rfl (fun H locs hP hD hS => ?_)
                  rw [ftPut_N (k := i) (by omega) (by omega)] at hP hD
                  have hP : va_P D vwCl [(a0, .inr (5, [.ref ag, .ref am, .ref ad, .ref b0, .int (nI tn), .int v1, .int v2, .int v3, .int (nI (q9 + k))])), (ag, .inl (cI, 120, .inl tx)), (am, .inl (cI, 3, .inl (upd nf i x63_3)))] H := hP
                  have hD : va_D A [(a0, .inr (5, [.ref ag, .ref am, .ref ad, .ref b0, .int (nI tn), .int v1, .int v2, .int v3, .int (nI (q9 + k))])), (ag, .inl (cI, 120, .inl tx)), (am, .inl (cI, 3, .inl (upd nf i x63_3)))] := hD
                  refine lv_iload hx hb dX5_readNumber_138 (lv_at hl 4 rfl) ?_
                  refine lv_if_le (tgt := 147) hx hb dX5_readNumber_140 (by decide) (fun c140 => ?_) (fun c140 => ?_)
                  · have c140n : k ≤ 0 := ft_leN (by omega) (by omega) c140
                    have hok9 : ftB (ftNok tx tn sp) = 0 := ftB_f (fun q => by have q2 := q.2; rw [hqq, hm] at q2; omega)
                    refine lv_iconst (v := 0) hx hb dX5_readNumber_147 (by decide) ?_
                    have hw9 : ([(a0, .inr (5, [.ref ag, .ref am, .ref ad, .ref b0, .int (nI tn), .int v1, .int v2, .int v3, .int (nI (q9 + k))])), (ag, .inl (cI, 120, .inl tx)), (am, .inl (cI, 3, .inl (upd nf i x63_3)))] : va_W) = [(a0, .inr (5, [.ref ag, .ref am, .ref ad, .ref b0, .int (nI tn), .int v1, .int v2, .int v3, .int (nI (ftNe tx tn sp))])), (ag, .inl (cI, 120, .inl tx)), (am, .inl (cI, 3, .inl (ftNf tx tn sp i nf)))] := by rw [ftNe_t hsq, ftNf_t hsq, hqq, hm]; first | (rw [ftNv_t hng, hqq, hm, ex63_3, ft_neg1]; done) | (rw [ftNv_f hng, hqq, hm, ex63_3, Int32.one_mul]; done)
                    rw [hw9] at hP hD
                    exact W.zret (v := 0) hx hb hr (by rfl) (fun t ht hW => ⟨⟨0, (), rfl, (by show (0 : Int32) = ftB (ftNok tx tn sp); exact hok9.symm), by rw [ht]; exact hP, by rw [hAe]; exact hD⟩, by rw [hAe]; exact hS.F ht⟩) hS.2.2 dX5_readNumber_148
                  · have c140n : 0 < k := ft_nleN (by omega) (by omega) c140
                    have hok9 : ftB (ftNok tx tn sp) = 1 := ftB_t ⟨hsq, by rw [hqq, hm]; omega⟩
                    refine lv_iconst (v := 1) hx hb dX5_readNumber_143 (by decide) ?_
                    refine lv_goto (tgt := 148) hx hb dX5_readNumber_144 (by decide) ?_
                    have hw9 : ([(a0, .inr (5, [.ref ag, .ref am, .ref ad, .ref b0, .int (nI tn), .int v1, .int v2, .int v3, .int (nI (q9 + k))])), (ag, .inl (cI, 120, .inl tx)), (am, .inl (cI, 3, .inl (upd nf i x63_3)))] : va_W) = [(a0, .inr (5, [.ref ag, .ref am, .ref ad, .ref b0, .int (nI tn), .int v1, .int v2, .int v3, .int (nI (ftNe tx tn sp))])), (ag, .inl (cI, 120, .inl tx)), (am, .inl (cI, 3, .inl (ftNf tx tn sp i nf)))] := by rw [ftNe_t hsq, ftNf_t hsq, hqq, hm]; first | (rw [ftNv_t hng, hqq, hm, ex63_3, ft_neg1]; done) | (rw [ftNv_f hng, hqq, hm, ex63_3, Int32.one_mul]; done)
                    rw [hw9] at hP hD
                    exact W.zret (v := 1) hx hb hr (by rfl) (fun t ht hW => ⟨⟨1, (), rfl, (by show (1 : Int32) = ftB (ftNok tx tn sp); exact hok9.symm), by rw [ht]; exact hP, by rw [hAe]; exact hD⟩, by rw [hAe]; exact hS.F ht⟩) hS.2.2 dX5_readNumber_148
                · exact absurd rfl c126
              · replace c84 := ftB_ne c84
                have hdp : ftDp tx tn q9 k := ftDp_c.mpr c84
                have hlt7 := hdp.1
                refine lv_iload_n hx hb dX5_readNumber_87 rfl (lv_at hl 3 rfl) ?_
                refine lv_bipush (v := 10) hx hb dX5_readNumber_88 (by decide) ?_
                refine lv_imul hx hb dX5_readNumber_90 ?_
                refine lv_aload_n hx hb dX5_readNumber_91 rfl (lv_at hl 0 rfl) ?_
                refine lv_aload_n hx hb dX5_readNumber_92 rfl (lv_at hl 0 rfl) ?_
                refine va_get (D := D) (ci := 5) (v := .int (nI (q9 + k))) (C := RX5) (T := TX5) (N := 9) hx hb hts (by decide +kernel) hown hK hP 0 rfl rfl 8 (by decide) (hts (.fieldLink RX5 42 "FiberTrace$LinkText" "position" "I") (by decide +kernel)) (fun _ h9 => h9) rfl dX5_readNumber_93 ?_
                refine ft_csi (r := ftC tx tn (q9 + k)) (va_runV (C := RX5) (As := [.int (nI (q9 + k))]) (rest := [.int (x63_3 * 10)]) ⟨hx, hb, hml, hown, hts⟩ (c_X5_signAt l D cI cS a0 ag am ad b0 tn v1 v2 v3 (nI (q9 + k)) tx (q9 + k) (by first | assumption | omega) (by first | assumption | omega)) (cwV 1 hts gX5_readNumber_X5_signAt rfl rfl rfl (by decide +kernel) ⟨Nat.le_of_ble_eq_true rfl, Nat.le_of_ble_eq_true rfl⟩) (ft_preROV (ci := 5) (q0 := 0) hP hKK [0, 1] rfl rfl rfl) rfl rfl hl.1 rfl (lv_room (Nat.le_of_ble_eq_true rfl)) dX5_readNumber_96 ⟨Nat.le_of_ble_eq_true rfl, Nat.le_of_ble_eq_true rfl⟩) ?_
                refine lv_iadd hx hb dX5_readNumber_99 ?_
                refine lv_bipush (v := 48) hx hb dX5_readNumber_100 (by decide) ?_
                refine lv_isub hx hb dX5_readNumber_102 ?_
                refine lv_istore_n (lv' := [(3, .int (((x63_3 * 10) + (ftC tx tn (q9 + k))) - 48)), (0, .ref a0), (1, .int (nI i)), (2, .int 0), (4, .int (nI k))]) hx hb dX5_readNumber_103 rfl hl (by decide) rfl (fun ls hl => ?_)
                refine lv_aload_n hx hb dX5_readNumber_104 rfl (lv_at hl 1 rfl) ?_
                refine lv_dup hx hb dX5_readNumber_105 rfl ?_
                refine va_get (D := D) (ci := 5) (v := .int (nI (q9 + k))) (C := RX5) (T := TX5) (N := 9) hx hb hts (by decide +kernel) hown hK hP 0 rfl rfl 8 (by decide) (hts (.fieldLink RX5 42 "FiberTrace$LinkText" "position" "I") (by decide +kernel)) (fun _ h9 => h9) rfl dX5_readNumber_106 ?_
                refine lv_iconst (v := 1) hx hb dX5_readNumber_109 (by decide) ?_
                refine lv_iadd hx hb dX5_readNumber_110 ?_
                refine ft_top (y := nI ((q9 + k) + 1)) (ft_addN (q9 + k) 1) ?_
                refine va_put (D := D) (ci := 5) (v := .int (nI ((q9 + k) + 1))) (ty := .int) (C := RX5) (T := TX5) (N := 9) hx hb hts (by decide +kernel) tyX5 tyX5_ok nmX5 hown hK hP hD hS 0 rfl rfl 8 (by decide) (hts (.fieldLink RX5 42 "FiberTrace$LinkText" "position" "I") (by decide +kernel)) (fun _ h9 => h9) rfl (by decide +kernel) rfl rfl (Nat.le_of_ble_eq_true rfl) dX5_readNumber_111 (fun H locs hP hD hS => ?_)
                have hP : va_P D vwCl [(a0, .inr (5, [.ref ag, .ref am, .ref ad, .ref b0, .int (nI tn), .int v1, .int v2, .int v3, .int (nI ((q9 + k) + 1))])), (ag, .inl (cI, 120, .inl tx)), (am, .inl (cI, 3, .inl nf))] H := hP
                have hD : va_D A [(a0, .inr (5, [.ref ag, .ref am, .ref ad, .ref b0, .int (nI tn), .int v1, .int v2, .int v3, .int (nI ((q9 + k) + 1))])), (ag, .inl (cI, 120, .inl tx)), (am, .inl (cI, 3, .inl nf))] := hD
                refine lv_iinc (v := nI (k + 1)) (lv' := [(4, .int (nI (k + 1))), (3, .int (((x63_3 * 10) + (ftC tx tn (q9 + k))) - 48)), (0, .ref a0), (1, .int (nI i)), (2, .int 0)]) hx hb dX5_readNumber_114 hl (k := 4) rfl (ft_inc k) (by decide) rfl (fun ls hl => ?_)
                refine lv_goto (tgt := 63) hx hb dX5_readNumber_117 (by decide) ?_
                exact ih63 (k + 1) (((x63_3 * 10) + (ftC tx tn (q9 + k))) - 48) (nI (k + 1)) (nI ((q9 + k) + 1)) (by omega) (by omega) (by intro t ht; rcases Nat.lt_succ_iff_lt_or_eq.mp ht with q | q; exact hall t q; subst q; exact hdp) (by omega) (by rw [ex63_3, ftC_in hlt7, Int32.mul_comm]; rfl) (by first | rfl | assumption) (by rfl) _ _ hP hD hS ls (lv_sub hl [2, 3, 4, 1, 0] rfl)
        exact lp63 _ 0 0 0 (nI (sp + 1)) (Nat.lt_succ_self _) (by omega) (by intro t ht; exact absurd ht (Nat.not_lt_zero t)) (by omega) (by rfl) (by rfl) (by rw [hq9]) _ _ hP hD hS ls (lv_sub hl [3, 4, 2, 1, 0] rfl)
      · exact absurd rfl c45
    · have hng : ftNg tx tn sp := ftNg_c.mpr c35
      have hlt8 := hng.1
      have hq8 : ftNq tx tn sp = sp + 1 + 1 := ftNq_t hng
      refine lv_iconst (v := 1) hx hb dX5_readNumber_38 (by decide) ?_
      refine lv_goto (tgt := 43) hx hb dX5_readNumber_39 (by decide) ?_
      refine lv_istore_n (lv' := [(2, .int 1), (0, .ref a0), (1, .int (nI i))]) hx hb dX5_readNumber_43 rfl hl (by decide) rfl (fun ls hl => ?_)
      refine lv_iload_n hx hb dX5_readNumber_44 rfl (lv_at hl 0 rfl) ?_
      refine lv_if_eq (tgt := 58) hx hb dX5_readNumber_45 (by decide) (fun c45 => ?_) (fun c45 => ?_)
      · exact absurd c45 (by decide)
      · refine lv_aload_n hx hb dX5_readNumber_48 rfl (lv_at hl 1 rfl) ?_
        refine lv_dup hx hb dX5_readNumber_49 rfl ?_
        refine va_get (D := D) (ci := 5) (v := .int (nI (sp + 1))) (C := RX5) (T := TX5) (N := 9) hx hb hts (by decide +kernel) hown hK hP 0 rfl rfl 8 (by decide) (hts (.fieldLink RX5 42 "FiberTrace$LinkText" "position" "I") (by decide +kernel)) (fun _ h9 => h9) rfl dX5_readNumber_50 ?_
        refine lv_iconst (v := 1) hx hb dX5_readNumber_53 (by decide) ?_
        refine lv_iadd hx hb dX5_readNumber_54 ?_
        refine ft_top (y := nI ((sp + 1) + 1)) (ft_addN (sp + 1) 1) ?_
        refine va_put (D := D) (ci := 5) (v := .int (nI ((sp + 1) + 1))) (ty := .int) (C := RX5) (T := TX5) (N := 9) hx hb hts (by decide +kernel) tyX5 tyX5_ok nmX5 hown hK hP hD hS 0 rfl rfl 8 (by decide) (hts (.fieldLink RX5 42 "FiberTrace$LinkText" "position" "I") (by decide +kernel)) (fun _ h9 => h9) rfl (by decide +kernel) rfl rfl (Nat.le_of_ble_eq_true rfl) dX5_readNumber_55 (fun H locs hP hD hS => ?_)
        have hP : va_P D vwCl [(a0, .inr (5, [.ref ag, .ref am, .ref ad, .ref b0, .int (nI tn), .int v1, .int v2, .int v3, .int (nI ((sp + 1) + 1))])), (ag, .inl (cI, 120, .inl tx)), (am, .inl (cI, 3, .inl nf))] H := hP
        have hD : va_D A [(a0, .inr (5, [.ref ag, .ref am, .ref ad, .ref b0, .int (nI tn), .int v1, .int v2, .int v3, .int (nI ((sp + 1) + 1))])), (ag, .inl (cI, 120, .inl tx)), (am, .inl (cI, 3, .inl nf))] := hD
        obtain ⟨q9, hq9⟩ : ∃ q9, q9 = (sp + 1) + 1 := ⟨_, rfl⟩
        have hqq : ftNq tx tn sp = q9 := by rw [hq9]; exact hq8
        have hqn : q9 ≤ tn := by omega
        refine lv_iconst (v := 0) hx hb dX5_readNumber_58 (by decide) ?_
        refine lv_istore_n (lv' := [(3, .int 0), (2, .int 1), (0, .ref a0), (1, .int (nI i))]) hx hb dX5_readNumber_59 rfl hl (by decide) rfl (fun ls hl => ?_)
        refine lv_iconst (v := 0) hx hb dX5_readNumber_60 (by decide) ?_
        refine lv_istore (lv' := [(4, .int 0), (3, .int 0), (2, .int 1), (0, .ref a0), (1, .int (nI i))]) hx hb dX5_readNumber_61 hl (by decide) rfl (fun ls hl => ?_)
        have lp63 : ∀ (n63 : Nat) (k : Nat) (x63_3 : Int32) (x63_4 : Int32) (g63_a0_8 : Int32), 5 - k < n63 → (k ≤ 5) → (∀ t, t < k → ftDp tx tn q9 t) → (q9 + k ≤ tn) → x63_3 = ftDg tx q9 k → x63_4 = nI k → g63_a0_8 = nI (q9 + k) → ∀ (H : Heap) (locs : List Loc), va_P D vwCl [(a0, .inr (5, [.ref ag, .ref am, .ref ad, .ref b0, .int (nI tn), .int v1, .int v2, .int v3, .int g63_a0_8])), (ag, .inl (cI, 120, .inl tx)), (am, .inl (cI, 3, .inl nf))] H → va_D A [(a0, .inr (5, [.ref ag, .ref am, .ref ad, .ref b0, .int (nI tn), .int v1, .int v2, .int v3, .int g63_a0_8])), (ag, .inl (cI, 120, .inl tx)), (am, .inl (cI, 3, .inl nf))] → va_S A s.heap H locs → ∀ ls : Array Slot, lv_has ls 5 [(0, .ref a0), (1, .int (nI i)), (2, .int 1), (3, .int x63_3), (4, .int x63_4)] → W p l e (headSpec wsX5_readNumber { frames := 2, cells := 0, slots := 0, locals := 42 }).room s m ([.ref a0, .int (nI i)] : List Value).toArray below meth c H locs 0 0 (MQ below (ftQi D (ftB (ftNok tx tn sp)) [(a0, .inr (5, [.ref ag, .ref am, .ref ad, .ref b0, .int (nI tn), .int v1, .int v2, .int v3, .int (nI sp)])), (ag, .inl (cI, 120, .inl tx)), (am, .inl (cI, 3, .inl nf))] [(a0, .inr (5, [.ref ag, .ref am, .ref ad, .ref b0, .int (nI tn), .int v1, .int v2, .int v3, .int (nI (ftNe tx tn sp))])), (ag, .inl (cI, 120, .inl tx)), (am, .inl (cI, 3, .inl (ftNf tx tn sp i nf)))] s.heap.size) ([.ref a0, .int (nI i)] : List Value).toArray s 0 0 A) (F0 m 63 ls []) := by
          intro n63
          induction n63 with
          | zero =>
            intro k x63_3 x63_4 g63_a0_8 hm63
            exact absurd hm63 (Nat.not_lt_zero _)
          | succ n63 ih63 =>
            intro k x63_3 x63_4 g63_a0_8 hm63 hk5 hall hqk ex63_3 ex63_4 eg63_a0_8 H locs hP hD hS ls hl
            subst ex63_4
            subst eg63_a0_8
            refine lv_iload hx hb dX5_readNumber_63 (lv_at hl 4 rfl) ?_
            refine lv_iconst (v := 5) hx hb dX5_readNumber_65 (by decide) ?_
            refine lv_icmp_ge (tgt := 120) hx hb dX5_readNumber_66 (by decide) (fun c66 => ?_) (fun c66 => ?_)
            · have c66n : 5 ≤ k := ft_leN (by omega) (by omega) c66
              have hm : ftNd tx tn q9 = k := ftIni_of (by omega) hall (fun h => absurd h (by omega))
              refine lv_aload_n hx hb dX5_readNumber_120 rfl (lv_at hl 0 rfl) ?_
              refine va_get (D := D) (ci := 5) (v := .ref am) (C := RX5) (T := TX5) (N := 9) hx hb hts (by decide +kernel) hown hK hP 0 rfl rfl 1 (by decide) (hts (.fieldLink RX5 15 "FiberTrace$LinkText" "numbers" "[I") (by decide +kernel)) (fun _ h9 => h9) rfl dX5_readNumber_121 ?_
              refine lv_iload_n hx hb dX5_readNumber_124 rfl (lv_at hl 1 rfl) ?_
              refine lv_iload_n hx hb dX5_readNumber_125 rfl (lv_at hl 2 rfl) ?_
              refine lv_if_eq (tgt := 134) hx hb dX5_readNumber_126 (by decide) (fun c126 => ?_) (fun c126 => ?_)
              · exact absurd c126 (by decide)
              · refine lv_iload_n hx hb dX5_readNumber_129 rfl (lv_at hl 3 rfl) ?_
                refine lv_ineg hx hb dX5_readNumber_130 ?_
                refine lv_goto (tgt := 135) hx hb dX5_readNumber_131 (by decide) ?_
                refine ft_cv (wc := [(am, .inl (cI, 3, .inl nf))]) (wr := [(a0, .inr (5, [.ref ag, .ref am, .ref ad, .ref b0, .int (nI tn), .int v1, .int v2, .int v3, .int (nI (q9 + k))])), (ag, .inl (cI, 120, .inl tx))]) (w1 := [(am, .inl (cI, 3, .inl (ftPut 3 nf (nI i) (-x63_3))))]) (ws1 := [(a0, .inr (5, [.ref ag, .ref am, .ref ad, .ref b0, .int (nI tn), .int v1, .int v2, .int v3, .int (nI (q9 + k))])), (ag, .inl (cI, 120, .inl tx)), (am, .inl (cI, 3, .inl (ftPut 3 nf (nI i) (-x63_3))))]) (va_runSN (As := [.ref am, .int (nI i), .int (-x63_3)]) (rest := []) ⟨hx, hb, hml, hown, hts⟩ (c_X10_put l D cI cS H.size am 3 nf (nI i) (-x63_3) (by first | assumption | omega)) ⟨va_cnB 3 hts gX5_readNumber_X10_put_n32 rfl rfl rfl (hKK.2 _ (List.mem_of_getElem? (i := 7) rfl)) (hts (.initialized RX10) (by decide +kernel)) (by decide +kernel) ⟨Nat.le_of_ble_eq_true rfl, Nat.le_of_ble_eq_true rfl⟩, hts (.static yX10_put) (by decide +kernel), trivial⟩ (ft_preRW hP hD hKK [2] rfl rfl rfl) rfl rfl hl.1 rfl (lv_room (Nat.le_of_ble_eq_true rfl)) dX5_readNumber_135 ⟨Nat.le_of_ble_eq_true rfl, Nat.le_of_ble_eq_true rfl⟩) hP hD hS hA [2] [0, 1] [0, 1, 2] rfl rfl (by decide) (by decide) (by decide) rfl rfl (fun H locs hP hD hS => ?_)
                rw [ftPut_N (k := i) (by omega) (by omega)] at hP hD
                have hP : va_P D vwCl [(a0, .inr (5, [.ref ag, .ref am, .ref ad, .ref b0, .int (nI tn), .int v1, .int v2, .int v3, .int (nI (q9 + k))])), (ag, .inl (cI, 120, .inl tx)), (am, .inl (cI, 3, .inl (upd nf i (-x63_3))))] H := hP
                have hD : va_D A [(a0, .inr (5, [.ref ag, .ref am, .ref ad, .ref b0, .int (nI tn), .int v1, .int v2, .int v3, .int (nI (q9 + k))])), (ag, .inl (cI, 120, .inl tx)), (am, .inl (cI, 3, .inl (upd nf i (-x63_3))))] := hD
                refine lv_iload hx hb dX5_readNumber_138 (lv_at hl 4 rfl) ?_
                refine lv_if_le (tgt := 147) hx hb dX5_readNumber_140 (by decide) (fun c140 => ?_) (fun c140 => ?_)
                · have c140n : k ≤ 0 := ft_leN (by omega) (by omega) c140
                  have hok9 : ftB (ftNok tx tn sp) = 0 := ftB_f (fun q => by have q2 := q.2; rw [hqq, hm] at q2; omega)
                  refine lv_iconst (v := 0) hx hb dX5_readNumber_147 (by decide) ?_
                  have hw9 : ([(a0, .inr (5, [.ref ag, .ref am, .ref ad, .ref b0, .int (nI tn), .int v1, .int v2, .int v3, .int (nI (q9 + k))])), (ag, .inl (cI, 120, .inl tx)), (am, .inl (cI, 3, .inl (upd nf i (-x63_3))))] : va_W) = [(a0, .inr (5, [.ref ag, .ref am, .ref ad, .ref b0, .int (nI tn), .int v1, .int v2, .int v3, .int (nI (ftNe tx tn sp))])), (ag, .inl (cI, 120, .inl tx)), (am, .inl (cI, 3, .inl (ftNf tx tn sp i nf)))] := by rw [ftNe_t hsq, ftNf_t hsq, hqq, hm]; first | (rw [ftNv_t hng, hqq, hm, ex63_3, ft_neg1]; done) | (rw [ftNv_f hng, hqq, hm, ex63_3, Int32.one_mul]; done)
                  rw [hw9] at hP hD
                  exact W.zret (v := 0) hx hb hr (by rfl) (fun t ht hW => ⟨⟨0, (), rfl, (by show (0 : Int32) = ftB (ftNok tx tn sp); exact hok9.symm), by rw [ht]; exact hP, by rw [hAe]; exact hD⟩, by rw [hAe]; exact hS.F ht⟩) hS.2.2 dX5_readNumber_148
                · have c140n : 0 < k := ft_nleN (by omega) (by omega) c140
                  have hok9 : ftB (ftNok tx tn sp) = 1 := ftB_t ⟨hsq, by rw [hqq, hm]; omega⟩
                  refine lv_iconst (v := 1) hx hb dX5_readNumber_143 (by decide) ?_
                  refine lv_goto (tgt := 148) hx hb dX5_readNumber_144 (by decide) ?_
                  have hw9 : ([(a0, .inr (5, [.ref ag, .ref am, .ref ad, .ref b0, .int (nI tn), .int v1, .int v2, .int v3, .int (nI (q9 + k))])), (ag, .inl (cI, 120, .inl tx)), (am, .inl (cI, 3, .inl (upd nf i (-x63_3))))] : va_W) = [(a0, .inr (5, [.ref ag, .ref am, .ref ad, .ref b0, .int (nI tn), .int v1, .int v2, .int v3, .int (nI (ftNe tx tn sp))])), (ag, .inl (cI, 120, .inl tx)), (am, .inl (cI, 3, .inl (ftNf tx tn sp i nf)))] := by rw [ftNe_t hsq, ftNf_t hsq, hqq, hm]; first | (rw [ftNv_t hng, hqq, hm, ex63_3, ft_neg1]; done) | (rw [ftNv_f hng, hqq, hm, ex63_3, Int32.one_mul]; done)
                  rw [hw9] at hP hD
                  exact W.zret (v := 1) hx hb hr (by rfl) (fun t ht hW => ⟨⟨1, (), rfl, (by show (1 : Int32) = ftB (ftNok tx tn sp); exact hok9.symm), by rw [ht]; exact hP, by rw [hAe]; exact hD⟩, by rw [hAe]; exact hS.F ht⟩) hS.2.2 dX5_readNumber_148
            · have c66n : k < 5 := ft_nleN (by omega) (by omega) c66
              refine lv_aload_n hx hb dX5_readNumber_69 rfl (lv_at hl 0 rfl) ?_
              refine lv_aload_n hx hb dX5_readNumber_70 rfl (lv_at hl 0 rfl) ?_
              refine va_get (D := D) (ci := 5) (v := .int (nI (q9 + k))) (C := RX5) (T := TX5) (N := 9) hx hb hts (by decide +kernel) hown hK hP 0 rfl rfl 8 (by decide) (hts (.fieldLink RX5 42 "FiberTrace$LinkText" "position" "I") (by decide +kernel)) (fun _ h9 => h9) rfl dX5_readNumber_71 ?_
              refine ft_csi (r := ftC tx tn (q9 + k)) (va_runV (C := RX5) (As := [.int (nI (q9 + k))]) (rest := []) ⟨hx, hb, hml, hown, hts⟩ (c_X5_signAt l D cI cS a0 ag am ad b0 tn v1 v2 v3 (nI (q9 + k)) tx (q9 + k) (by first | assumption | omega) (by first | assumption | omega)) (cwV 1 hts gX5_readNumber_X5_signAt rfl rfl rfl (by decide +kernel) ⟨Nat.le_of_ble_eq_true rfl, Nat.le_of_ble_eq_true rfl⟩) (ft_preROV (ci := 5) (q0 := 0) hP hKK [0, 1] rfl rfl rfl) rfl rfl hl.1 rfl (lv_room (Nat.le_of_ble_eq_true rfl)) dX5_readNumber_74 ⟨Nat.le_of_ble_eq_true rfl, Nat.le_of_ble_eq_true rfl⟩) ?_
              refine lv_bipush (v := 48) hx hb dX5_readNumber_77 (by decide) ?_
              refine lv_bipush (v := 57) hx hb dX5_readNumber_79 (by decide) ?_
              refine ft_csi (r := ftB (48 ≤ (ftC tx tn (q9 + k)) ∧ (ftC tx tn (q9 + k)) ≤ 57)) (va_runSN (As := [.int (ftC tx tn (q9 + k)), .int 48, .int 57]) (rest := []) ⟨hx, hb, hml, hown, hts⟩ (c_X10_isWithin l D cI cS (ftC tx tn (q9 + k)) 48 57) ⟨va_cnB 3 hts gX5_readNumber_X10_isWithin_n115 rfl rfl rfl (hKK.2 _ (List.mem_of_getElem? (i := 9) rfl)) (hts (.initialized RX10) (by decide +kernel)) (by decide +kernel) ⟨Nat.le_of_ble_eq_true rfl, Nat.le_of_ble_eq_true rfl⟩, hts (.static yX10_isWithin) (by decide +kernel), trivial⟩ (ft_preRO hP hKK [] rfl) rfl rfl hl.1 rfl (lv_room (Nat.le_of_ble_eq_true rfl)) dX5_readNumber_81 ⟨Nat.le_of_ble_eq_true rfl, Nat.le_of_ble_eq_true rfl⟩) ?_
              refine lv_if_eq (tgt := 120) hx hb dX5_readNumber_84 (by decide) (fun c84 => ?_) (fun c84 => ?_)
              · replace c84 := ftB_eq c84
                have hm : ftNd tx tn q9 = k := ftIni_of (by omega) hall (fun _ q => c84 (ftDp_c.mp q))
                refine lv_aload_n hx hb dX5_readNumber_120 rfl (lv_at hl 0 rfl) ?_
                refine va_get (D := D) (ci := 5) (v := .ref am) (C := RX5) (T := TX5) (N := 9) hx hb hts (by decide +kernel) hown hK hP 0 rfl rfl 1 (by decide) (hts (.fieldLink RX5 15 "FiberTrace$LinkText" "numbers" "[I") (by decide +kernel)) (fun _ h9 => h9) rfl dX5_readNumber_121 ?_
                refine lv_iload_n hx hb dX5_readNumber_124 rfl (lv_at hl 1 rfl) ?_
                refine lv_iload_n hx hb dX5_readNumber_125 rfl (lv_at hl 2 rfl) ?_
                refine lv_if_eq (tgt := 134) hx hb dX5_readNumber_126 (by decide) (fun c126 => ?_) (fun c126 => ?_)
                · exact absurd c126 (by decide)
                · refine lv_iload_n hx hb dX5_readNumber_129 rfl (lv_at hl 3 rfl) ?_
                  refine lv_ineg hx hb dX5_readNumber_130 ?_
                  refine lv_goto (tgt := 135) hx hb dX5_readNumber_131 (by decide) ?_
                  refine ft_cv (wc := [(am, .inl (cI, 3, .inl nf))]) (wr := [(a0, .inr (5, [.ref ag, .ref am, .ref ad, .ref b0, .int (nI tn), .int v1, .int v2, .int v3, .int (nI (q9 + k))])), (ag, .inl (cI, 120, .inl tx))]) (w1 := [(am, .inl (cI, 3, .inl (ftPut 3 nf (nI i) (-x63_3))))]) (ws1 := [(a0, .inr (5, [.ref ag, .ref am, .ref ad, .ref b0, .int (nI tn), .int v1, .int v2, .int v3, .int (nI (q9 + k))])), (ag, .inl (cI, 120, .inl tx)), (am, .inl (cI, 3, .inl (ftPut 3 nf (nI i) (-x63_3))))]) (va_runSN (As := [.ref am, .int (nI i), .int (-x63_3)]) (rest := []) ⟨hx, hb, hml, hown, hts⟩ (c_X10_put l D cI cS H.size am 3 nf (nI i) (-x63_3) (by first | assumption | omega)) ⟨va_cnB 3 hts gX5_readNumber_X10_put_n32 rfl rfl rfl (hKK.2 _ (List.mem_of_getElem? (i := 7) rfl)) (hts (.initialized RX10) (by decide +kernel)) (by decide +kernel) ⟨Nat.le_of_ble_eq_true rfl, Nat.le_of_ble_eq_true rfl⟩, hts (.static yX10_put) (by decide +kernel), trivial⟩ (ft_preRW hP hD hKK [2] rfl rfl rfl) rfl rfl hl.1 rfl (lv_room (Nat.le_of_ble_eq_true rfl)) dX5_readNumber_135 ⟨Nat.le_of_ble_eq_true rfl, Nat.le_of_ble_eq_true rfl⟩) hP hD hS hA [2] [0, 1] [0, 1, 2] rfl rfl (by decide) (by decide) (by decide) rfl rfl (fun H locs hP hD hS => ?_)
                  rw [ftPut_N (k := i) (by omega) (by omega)] at hP hD
                  have hP : va_P D vwCl [(a0, .inr (5, [.ref ag, .ref am, .ref ad, .ref b0, .int (nI tn), .int v1, .int v2, .int v3, .int (nI (q9 + k))])), (ag, .inl (cI, 120, .inl tx)), (am, .inl (cI, 3, .inl (upd nf i (-x63_3))))] H := hP
                  have hD : va_D A [(a0, .inr (5, [.ref ag, .ref am, .ref ad, .ref b0, .int (nI tn), .int v1, .int v2, .int v3, .int (nI (q9 + k))])), (ag, .inl (cI, 120, .inl tx)), (am, .inl (cI, 3, .inl (upd nf i (-x63_3))))] := hD
                  refine lv_iload hx hb dX5_readNumber_138 (lv_at hl 4 rfl) ?_
                  refine lv_if_le (tgt := 147) hx hb dX5_readNumber_140 (by decide) (fun c140 => ?_) (fun c140 => ?_)
                  · have c140n : k ≤ 0 := ft_leN (by omega) (by omega) c140
                    have hok9 : ftB (ftNok tx tn sp) = 0 := ftB_f (fun q => by have q2 := q.2; rw [hqq, hm] at q2; omega)
                    refine lv_iconst (v := 0) hx hb dX5_readNumber_147 (by decide) ?_
                    have hw9 : ([(a0, .inr (5, [.ref ag, .ref am, .ref ad, .ref b0, .int (nI tn), .int v1, .int v2, .int v3, .int (nI (q9 + k))])), (ag, .inl (cI, 120, .inl tx)), (am, .inl (cI, 3, .inl (upd nf i (-x63_3))))] : va_W) = [(a0, .inr (5, [.ref ag, .ref am, .ref ad, .ref b0, .int (nI tn), .int v1, .int v2, .int v3, .int (nI (ftNe tx tn sp))])), (ag, .inl (cI, 120, .inl tx)), (am, .inl (cI, 3, .inl (ftNf tx tn sp i nf)))] := by rw [ftNe_t hsq, ftNf_t hsq, hqq, hm]; first | (rw [ftNv_t hng, hqq, hm, ex63_3, ft_neg1]; done) | (rw [ftNv_f hng, hqq, hm, ex63_3, Int32.one_mul]; done)
                    rw [hw9] at hP hD
                    exact W.zret (v := 0) hx hb hr (by rfl) (fun t ht hW => ⟨⟨0, (), rfl, (by show (0 : Int32) = ftB (ftNok tx tn sp); exact hok9.symm), by rw [ht]; exact hP, by rw [hAe]; exact hD⟩, by rw [hAe]; exact hS.F ht⟩) hS.2.2 dX5_readNumber_148
                  · have c140n : 0 < k := ft_nleN (by omega) (by omega) c140
                    have hok9 : ftB (ftNok tx tn sp) = 1 := ftB_t ⟨hsq, by rw [hqq, hm]; omega⟩
                    refine lv_iconst (v := 1) hx hb dX5_readNumber_143 (by decide) ?_
                    refine lv_goto (tgt := 148) hx hb dX5_readNumber_144 (by decide) ?_
                    have hw9 : ([(a0, .inr (5, [.ref ag, .ref am, .ref ad, .ref b0, .int (nI tn), .int v1, .int v2, .int v3, .int (nI (q9 + k))])), (ag, .inl (cI, 120, .inl tx)), (am, .inl (cI, 3, .inl (upd nf i (-x63_3))))] : va_W) = [(a0, .inr (5, [.ref ag, .ref am, .ref ad, .ref b0, .int (nI tn), .int v1, .int v2, .int v3, .int (nI (ftNe tx tn sp))])), (ag, .inl (cI, 120, .inl tx)), (am, .inl (cI, 3, .inl (ftNf tx tn sp i nf)))] := by rw [ftNe_t hsq, ftNf_t hsq, hqq, hm]; first | (rw [ftNv_t hng, hqq, hm, ex63_3, ft_neg1]; done) | (rw [ftNv_f hng, hqq, hm, ex63_3, Int32.one_mul]; done)
                    rw [hw9] at hP hD
                    exact W.zret (v := 1) hx hb hr (by rfl) (fun t ht hW => ⟨⟨1, (), rfl, (by show (1 : Int32) = ftB (ftNok tx tn sp); exact hok9.symm), by rw [ht]; exact hP, by rw [hAe]; exact hD⟩, by rw [hAe]; exact hS.F ht⟩) hS.2.2 dX5_readNumber_148
              · replace c84 := ftB_ne c84
                have hdp : ftDp tx tn q9 k := ftDp_c.mpr c84
                have hlt7 := hdp.1
                refine lv_iload_n hx hb dX5_readNumber_87 rfl (lv_at hl 3 rfl) ?_
                refine lv_bipush (v := 10) hx hb dX5_readNumber_88 (by decide) ?_
                refine lv_imul hx hb dX5_readNumber_90 ?_
                refine lv_aload_n hx hb dX5_readNumber_91 rfl (lv_at hl 0 rfl) ?_
                refine lv_aload_n hx hb dX5_readNumber_92 rfl (lv_at hl 0 rfl) ?_
                refine va_get (D := D) (ci := 5) (v := .int (nI (q9 + k))) (C := RX5) (T := TX5) (N := 9) hx hb hts (by decide +kernel) hown hK hP 0 rfl rfl 8 (by decide) (hts (.fieldLink RX5 42 "FiberTrace$LinkText" "position" "I") (by decide +kernel)) (fun _ h9 => h9) rfl dX5_readNumber_93 ?_
                refine ft_csi (r := ftC tx tn (q9 + k)) (va_runV (C := RX5) (As := [.int (nI (q9 + k))]) (rest := [.int (x63_3 * 10)]) ⟨hx, hb, hml, hown, hts⟩ (c_X5_signAt l D cI cS a0 ag am ad b0 tn v1 v2 v3 (nI (q9 + k)) tx (q9 + k) (by first | assumption | omega) (by first | assumption | omega)) (cwV 1 hts gX5_readNumber_X5_signAt rfl rfl rfl (by decide +kernel) ⟨Nat.le_of_ble_eq_true rfl, Nat.le_of_ble_eq_true rfl⟩) (ft_preROV (ci := 5) (q0 := 0) hP hKK [0, 1] rfl rfl rfl) rfl rfl hl.1 rfl (lv_room (Nat.le_of_ble_eq_true rfl)) dX5_readNumber_96 ⟨Nat.le_of_ble_eq_true rfl, Nat.le_of_ble_eq_true rfl⟩) ?_
                refine lv_iadd hx hb dX5_readNumber_99 ?_
                refine lv_bipush (v := 48) hx hb dX5_readNumber_100 (by decide) ?_
                refine lv_isub hx hb dX5_readNumber_102 ?_
                refine lv_istore_n (lv' := [(3, .int (((x63_3 * 10) + (ftC tx tn (q9 + k))) - 48)), (0, .ref a0), (1, .int (nI i)), (2, .int 1), (4, .int (nI k))]) hx hb dX5_readNumber_103 rfl hl (by decide) rfl (fun ls hl => ?_)
                refine lv_aload_n hx hb dX5_readNumber_104 rfl (lv_at hl 1 rfl) ?_
                refine lv_dup hx hb dX5_readNumber_105 rfl ?_
                refine va_get (D := D) (ci := 5) (v := .int (nI (q9 + k))) (C := RX5) (T := TX5) (N := 9) hx hb hts (by decide +kernel) hown hK hP 0 rfl rfl 8 (by decide) (hts (.fieldLink RX5 42 "FiberTrace$LinkText" "position" "I") (by decide +kernel)) (fun _ h9 => h9) rfl dX5_readNumber_106 ?_
                refine lv_iconst (v := 1) hx hb dX5_readNumber_109 (by decide) ?_
                refine lv_iadd hx hb dX5_readNumber_110 ?_
                refine ft_top (y := nI ((q9 + k) + 1)) (ft_addN (q9 + k) 1) ?_
                refine va_put (D := D) (ci := 5) (v := .int (nI ((q9 + k) + 1))) (ty := .int) (C := RX5) (T := TX5) (N := 9) hx hb hts (by decide +kernel) tyX5 tyX5_ok nmX5 hown hK hP hD hS 0 rfl rfl 8 (by decide) (hts (.fieldLink RX5 42 "FiberTrace$LinkText" "position" "I") (by decide +kernel)) (fun _ h9 => h9) rfl (by decide +kernel) rfl rfl (Nat.le_of_ble_eq_true rfl) dX5_readNumber_111 (fun H locs hP hD hS => ?_)
                have hP : va_P D vwCl [(a0, .inr (5, [.ref ag, .ref am, .ref ad, .ref b0, .int (nI tn), .int v1, .int v2, .int v3, .int (nI ((q9 + k) + 1))])), (ag, .inl (cI, 120, .inl tx)), (am, .inl (cI, 3, .inl nf))] H := hP
                have hD : va_D A [(a0, .inr (5, [.ref ag, .ref am, .ref ad, .ref b0, .int (nI tn), .int v1, .int v2, .int v3, .int (nI ((q9 + k) + 1))])), (ag, .inl (cI, 120, .inl tx)), (am, .inl (cI, 3, .inl nf))] := hD
                refine lv_iinc (v := nI (k + 1)) (lv' := [(4, .int (nI (k + 1))), (3, .int (((x63_3 * 10) + (ftC tx tn (q9 + k))) - 48)), (0, .ref a0), (1, .int (nI i)), (2, .int 1)]) hx hb dX5_readNumber_114 hl (k := 4) rfl (ft_inc k) (by decide) rfl (fun ls hl => ?_)
                refine lv_goto (tgt := 63) hx hb dX5_readNumber_117 (by decide) ?_
                exact ih63 (k + 1) (((x63_3 * 10) + (ftC tx tn (q9 + k))) - 48) (nI (k + 1)) (nI ((q9 + k) + 1)) (by omega) (by omega) (by intro t ht; rcases Nat.lt_succ_iff_lt_or_eq.mp ht with q | q; exact hall t q; subst q; exact hdp) (by omega) (by rw [ex63_3, ftC_in hlt7, Int32.mul_comm]; rfl) (by first | rfl | assumption) (by rfl) _ _ hP hD hS ls (lv_sub hl [2, 3, 4, 1, 0] rfl)
        exact lp63 _ 0 0 0 (nI ((sp + 1) + 1)) (Nat.lt_succ_self _) (by omega) (by intro t ht; exact absurd ht (Nat.not_lt_zero t)) (by omega) (by rfl) (by rfl) (by rw [hq9]) _ _ hP hD hS ls (lv_sub hl [3, 4, 2, 1, 0] rfl)
  · have hns : ¬ ftSp tx tn sp := fun q => c10 (ftSp_c.mp q)
    refine lv_iconst (v := 0) hx hb dX5_readNumber_13 (by decide) ?_
    have hw9 : ([(a0, .inr (5, [.ref ag, .ref am, .ref ad, .ref b0, .int (nI tn), .int v1, .int v2, .int v3, .int (nI sp)])), (ag, .inl (cI, 120, .inl tx)), (am, .inl (cI, 3, .inl nf))] : va_W) = [(a0, .inr (5, [.ref ag, .ref am, .ref ad, .ref b0, .int (nI tn), .int v1, .int v2, .int v3, .int (nI (ftNe tx tn sp))])), (ag, .inl (cI, 120, .inl tx)), (am, .inl (cI, 3, .inl (ftNf tx tn sp i nf)))] := by rw [ftNe_f hns, ftNf_f hns]
    rw [hw9] at hP hD
    exact W.zret (v := 0) hx hb hr (by rfl) (fun t ht hW => ⟨⟨0, (), rfl, (by show (0 : Int32) = ftB (ftNok tx tn sp); exact (ftB_f (fun q : ftNok tx tn sp => hns q.1)).symm), by rw [ht]; exact hP, by rw [hAe]; exact hD⟩, by rw [hAe]; exact hS.F ht⟩) hS.2.2 dX5_readNumber_14
set_option maxHeartbeats 4000000 in
set_option maxRecDepth 100000 in
theorem c_X5_readNumbers (l : Launch) (D : va_G) (cI cS : ClassId) (sz : Nat) (a0 ag am ad b0 : Nat) (tn : Nat) (v1 v2 v3 : Int32) (sp : Nat) (tx nf : Nat → Int32) (wn : Nat) (htn : tn ≤ 120) (hsp : sp ≤ tn) (hwn : wn ≤ 3) : Met l yX5_readNumbers wsX5_readNumbers ({ frames := 3, cells := 0, slots := 0, locals := 66 }) (ftRW D cI cS [.ref a0, .int (nI wn)] [(a0, .inr (5, [.ref ag, .ref am, .ref ad, .ref b0, .int (nI tn), .int v1, .int v2, .int v3, .int (nI sp)])), (ag, .inl (cI, 120, .inl tx)), (am, .inl (cI, 3, .inl nf))] sz) (ftQi D (if ftNm tx tn sp wn = wn then -1 else nI (ftNm tx tn sp wn)) [(a0, .inr (5, [.ref ag, .ref am, .ref ad, .ref b0, .int (nI tn), .int v1, .int v2, .int v3, .int (nI sp)])), (ag, .inl (cI, 120, .inl tx)), (am, .inl (cI, 3, .inl nf))] [(a0, .inr (5, [.ref ag, .ref am, .ref ad, .ref b0, .int (nI tn), .int v1, .int v2, .int v3, .int (nI (ftNP tx tn sp (min (ftNm tx tn sp wn + 1) wn)))])), (ag, .inl (cI, 120, .inl tx)), (am, .inl (cI, 3, .inl (ftNfs tx tn sp nf (min (ftNm tx tn sp wn + 1) wn))))] sz) 0 0 (va_A [(a0, .inr (5, [.ref ag, .ref am, .ref ad, .ref b0, .int (nI tn), .int v1, .int v2, .int v3, .int (nI sp)])), (ag, .inl (cI, 120, .inl tx)), (am, .inl (cI, 3, .inl nf))] sz) := by
  refine Met.ofW (cc := cX5_readNumbers) (maxL := 3) (ret := (some .int)) (by decide) rfl ?_
  intro p e s m args below meth c s₁ B hml hv
  obtain ⟨rfl, hsz, hP, hKK, hD0⟩ := hv
  have hK := hKK.1
  have hx := B.exec
  have hb := B.bytes
  have hr := B.returns
  have hts := atoms_spec (ws := wsX5_readNumbers) B.pre
  have hown : s.vm.findClass RX5 = some m.cls := findClass_of_methodNamed B.named
  have hlocks := B.notSynchronized
  subst hsz
  have hD := hD0.self (sz := s.heap.size)
  generalize hAe : va_A [(a0, .inr (5, [.ref ag, .ref am, .ref ad, .ref b0, .int (nI tn), .int v1, .int v2, .int v3, .int (nI sp)])), (ag, .inl (cI, 120, .inl tx)), (am, .inl (cI, 3, .inl nf))] s.heap.size = A at hD ⊢
  have hA : ∀ q : Nat, s.heap.size ≤ q → A q := fun q h => by rw [← hAe]; exact Or.inr h
  have hS : va_S A s.heap s.heap [] := va_S.rf
  have hD : va_D A [(a0, .inr (5, [.ref ag, .ref am, .ref ad, .ref b0, .int (nI tn), .int v1, .int v2, .int v3, .int (nI sp)])), (ag, .inl (cI, 120, .inl tx)), (am, .inl (cI, 3, .inl nf))] := hD
  have hP : va_P D vwCl [(a0, .inr (5, [.ref ag, .ref am, .ref ad, .ref b0, .int (nI tn), .int v1, .int v2, .int v3, .int (nI sp)])), (ag, .inl (cI, 120, .inl tx)), (am, .inl (cI, 3, .inl nf))] s.heap := hP
  have hl := lv_entry ([.ref a0, .int (nI wn)]) (n := 3) (Nat.le_of_ble_eq_true rfl)
  rw [lg_entry_eq]
  generalize (lg_sl ([.ref a0, .int (nI wn)]) ++ List.replicate (3 - (lg_sl ([.ref a0, .int (nI wn)])).length) Slot.unset).toArray = ls at hl ⊢
  have hl : lv_has ls 3 [(0, .ref a0), (1, .int (nI wn))] := hl
  refine lv_iconst (v := 0) hx hb dX5_readNumbers_0 (by decide) ?_
  refine lv_istore_n (lv' := [(2, .int 0), (0, .ref a0), (1, .int (nI wn))]) hx hb dX5_readNumbers_1 rfl hl (by decide) rfl (fun ls hl => ?_)
  have lp2 : ∀ (n2 : Nat) (i : Nat) (x2_2 : Int32) (g2_a0_8 : Int32) (g2_am : Nat → Int32), wn - i < n2 → (i ≤ wn) → (∀ t, t < i → ftNok tx tn (ftNP tx tn sp t)) → x2_2 = nI i → g2_a0_8 = nI (ftNP tx tn sp i) → g2_am = ftNfs tx tn sp nf i → ∀ (H : Heap) (locs : List Loc), va_P D vwCl [(a0, .inr (5, [.ref ag, .ref am, .ref ad, .ref b0, .int (nI tn), .int v1, .int v2, .int v3, .int g2_a0_8])), (ag, .inl (cI, 120, .inl tx)), (am, .inl (cI, 3, .inl g2_am))] H → va_D A [(a0, .inr (5, [.ref ag, .ref am, .ref ad, .ref b0, .int (nI tn), .int v1, .int v2, .int v3, .int g2_a0_8])), (ag, .inl (cI, 120, .inl tx)), (am, .inl (cI, 3, .inl g2_am))] → va_S A s.heap H locs → ∀ ls : Array Slot, lv_has ls 3 [(0, .ref a0), (1, .int (nI wn)), (2, .int x2_2)] → W p l e (headSpec wsX5_readNumbers { frames := 3, cells := 0, slots := 0, locals := 66 }).room s m ([.ref a0, .int (nI wn)] : List Value).toArray below meth c H locs 0 0 (MQ below (ftQi D (if ftNm tx tn sp wn = wn then -1 else nI (ftNm tx tn sp wn)) [(a0, .inr (5, [.ref ag, .ref am, .ref ad, .ref b0, .int (nI tn), .int v1, .int v2, .int v3, .int (nI sp)])), (ag, .inl (cI, 120, .inl tx)), (am, .inl (cI, 3, .inl nf))] [(a0, .inr (5, [.ref ag, .ref am, .ref ad, .ref b0, .int (nI tn), .int v1, .int v2, .int v3, .int (nI (ftNP tx tn sp (min (ftNm tx tn sp wn + 1) wn)))])), (ag, .inl (cI, 120, .inl tx)), (am, .inl (cI, 3, .inl (ftNfs tx tn sp nf (min (ftNm tx tn sp wn + 1) wn))))] s.heap.size) ([.ref a0, .int (nI wn)] : List Value).toArray s 0 0 A) (F0 m 2 ls []) := by
    intro n2
    induction n2 with
    | zero =>
      intro i x2_2 g2_a0_8 g2_am hm2
      exact absurd hm2 (Nat.not_lt_zero _)
    | succ n2 ih2 =>
      intro i x2_2 g2_a0_8 g2_am hm2 hin hok ex2_2 eg2_a0_8 eg2_am H locs hP hD hS ls hl
      subst ex2_2
      subst eg2_a0_8
      have hpi := ftNP_le (tx := tx) hsp i
      refine lv_iload_n hx hb dX5_readNumbers_2 rfl (lv_at hl 2 rfl) ?_
      refine lv_iload_n hx hb dX5_readNumbers_3 rfl (lv_at hl 1 rfl) ?_
      refine lv_icmp_ge (tgt := 23) hx hb dX5_readNumbers_4 (by decide) (fun c4 => ?_) (fun c4 => ?_)
      · have c4n : wn ≤ i := ft_leN (by omega) (by omega) c4
        have hm : ftNm tx tn sp wn = wn := ftIni_of (Nat.le_refl _) (fun t ht => hok t (by omega)) (fun h => absurd h (Nat.lt_irrefl _))
        refine lv_iconst (v := (-1)) hx hb dX5_readNumbers_23 (by decide) ?_
        have hw9 : ([(a0, .inr (5, [.ref ag, .ref am, .ref ad, .ref b0, .int (nI tn), .int v1, .int v2, .int v3, .int (nI (ftNP tx tn sp i))])), (ag, .inl (cI, 120, .inl tx)), (am, .inl (cI, 3, .inl g2_am))] : va_W) = [(a0, .inr (5, [.ref ag, .ref am, .ref ad, .ref b0, .int (nI tn), .int v1, .int v2, .int v3, .int (nI (ftNP tx tn sp (min (ftNm tx tn sp wn + 1) wn)))])), (ag, .inl (cI, 120, .inl tx)), (am, .inl (cI, 3, .inl (ftNfs tx tn sp nf (min (ftNm tx tn sp wn + 1) wn))))] := by rw [hm, Nat.min_eq_right (by omega), eg2_am, show i = wn by omega]
        rw [hw9] at hP hD
        exact W.iret (v := (-1)) hx hb hr (fun t ht hW => ⟨⟨(-1), (), rfl, (by show ((-1) : Int32) = if ftNm tx tn sp wn = wn then -1 else nI (ftNm tx tn sp wn); rw [hm, if_pos rfl]), by rw [ht]; exact hP, by rw [hAe]; exact hD⟩, by rw [hAe]; exact hS.F ht⟩) hS.2.2 dX5_readNumbers_24
      · have c4n : i < wn := ft_nleN (by omega) (by omega) c4
        refine lv_aload_n hx hb dX5_readNumbers_7 rfl (lv_at hl 0 rfl) ?_
        refine lv_iload_n hx hb dX5_readNumbers_8 rfl (lv_at hl 2 rfl) ?_
        refine ft_ci (r := ftB (ftNok tx tn (ftNP tx tn sp i))) (wc := [(a0, .inr (5, [.ref ag, .ref am, .ref ad, .ref b0, .int (nI tn), .int v1, .int v2, .int v3, .int (nI (ftNP tx tn sp i))])), (ag, .inl (cI, 120, .inl tx)), (am, .inl (cI, 3, .inl g2_am))]) (wr := []) (w1 := [(a0, .inr (5, [.ref ag, .ref am, .ref ad, .ref b0, .int (nI tn), .int v1, .int v2, .int v3, .int (nI (ftNe tx tn (ftNP tx tn sp i)))])), (ag, .inl (cI, 120, .inl tx)), (am, .inl (cI, 3, .inl (ftNf tx tn (ftNP tx tn sp i) i g2_am)))]) (ws1 := [(a0, .inr (5, [.ref ag, .ref am, .ref ad, .ref b0, .int (nI tn), .int v1, .int v2, .int v3, .int (nI (ftNe tx tn (ftNP tx tn sp i)))])), (ag, .inl (cI, 120, .inl tx)), (am, .inl (cI, 3, .inl (ftNf tx tn (ftNP tx tn sp i) i g2_am)))]) (va_runV (C := RX5) (As := [.int (nI i)]) (rest := []) ⟨hx, hb, hml, hown, hts⟩ (c_X5_readNumber l D cI cS H.size a0 ag am ad b0 tn v1 v2 v3 (ftNP tx tn sp i) tx g2_am i (by first | assumption | omega) (by first | assumption | omega) (by first | assumption | omega)) (cwV 1 hts gX5_readNumbers_X5_readNumber rfl rfl rfl (by decide +kernel) ⟨Nat.le_of_ble_eq_true rfl, Nat.le_of_ble_eq_true rfl⟩) (ft_preRWV (ci := 5) (q0 := 0) hP hD hKK [0, 1, 2] rfl rfl rfl rfl rfl) rfl rfl hl.1 rfl (lv_room (Nat.le_of_ble_eq_true rfl)) dX5_readNumbers_9 ⟨Nat.le_of_ble_eq_true rfl, Nat.le_of_ble_eq_true rfl⟩) hP hD hS hA [0, 1, 2] [] [0, 1, 2] rfl rfl (by decide) (by decide) (by decide) rfl rfl (fun H locs hP hD hS => ?_)
        have hP : va_P D vwCl [(a0, .inr (5, [.ref ag, .ref am, .ref ad, .ref b0, .int (nI tn), .int v1, .int v2, .int v3, .int (nI (ftNe tx tn (ftNP tx tn sp i)))])), (ag, .inl (cI, 120, .inl tx)), (am, .inl (cI, 3, .inl (ftNf tx tn (ftNP tx tn sp i) i g2_am)))] H := hP
        have hD : va_D A [(a0, .inr (5, [.ref ag, .ref am, .ref ad, .ref b0, .int (nI tn), .int v1, .int v2, .int v3, .int (nI (ftNe tx tn (ftNP tx tn sp i)))])), (ag, .inl (cI, 120, .inl tx)), (am, .inl (cI, 3, .inl (ftNf tx tn (ftNP tx tn sp i) i g2_am)))] := hD
        refine lv_if_ne (tgt := 17) hx hb dX5_readNumbers_12 (by decide) (fun c12 => ?_) (fun c12 => ?_)
        · replace c12 := ftB_ne c12
          refine lv_iinc (v := nI (i + 1)) (lv' := [(2, .int (nI (i + 1))), (0, .ref a0), (1, .int (nI wn))]) hx hb dX5_readNumbers_17 hl (k := 2) rfl (ft_inc i) (by decide) rfl (fun ls hl => ?_)
          refine lv_goto (tgt := 2) hx hb dX5_readNumbers_20 (by decide) ?_
          exact ih2 (i + 1) (nI (i + 1)) (nI (ftNe tx tn (ftNP tx tn sp i))) (ftNf tx tn (ftNP tx tn sp i) i g2_am) (by omega) (by omega) (by intro t ht; rcases Nat.lt_succ_iff_lt_or_eq.mp ht with q | q; exact hok t q; subst q; exact c12) (by first | rfl | assumption) (by rfl) (by rw [eg2_am]; rfl) _ _ hP hD hS ls (lv_sub hl [1, 2, 0] rfl)
        · replace c12 := ftB_eq c12
          have hm : ftNm tx tn sp wn = i := ftIni_of hin hok (fun _ => c12)
          refine lv_iload_n hx hb dX5_readNumbers_15 rfl (lv_at hl 2 rfl) ?_
          have hw9 : ([(a0, .inr (5, [.ref ag, .ref am, .ref ad, .ref b0, .int (nI tn), .int v1, .int v2, .int v3, .int (nI (ftNe tx tn (ftNP tx tn sp i)))])), (ag, .inl (cI, 120, .inl tx)), (am, .inl (cI, 3, .inl (ftNf tx tn (ftNP tx tn sp i) i g2_am)))] : va_W) = [(a0, .inr (5, [.ref ag, .ref am, .ref ad, .ref b0, .int (nI tn), .int v1, .int v2, .int v3, .int (nI (ftNP tx tn sp (min (ftNm tx tn sp wn + 1) wn)))])), (ag, .inl (cI, 120, .inl tx)), (am, .inl (cI, 3, .inl (ftNfs tx tn sp nf (min (ftNm tx tn sp wn + 1) wn))))] := by rw [hm, Nat.min_eq_left (by omega), eg2_am]; rfl
          rw [hw9] at hP hD
          exact W.iret (v := nI i) hx hb hr (fun t ht hW => ⟨⟨nI i, (), rfl, (by show (nI i : Int32) = if ftNm tx tn sp wn = wn then -1 else nI (ftNm tx tn sp wn); rw [hm, if_neg (by omega)]), by rw [ht]; exact hP, by rw [hAe]; exact hD⟩, by rw [hAe]; exact hS.F ht⟩) hS.2.2 dX5_readNumbers_16
  exact lp2 _ 0 0 (nI sp) nf (Nat.lt_succ_self _) (by omega) (by intro t ht; exact absurd ht (Nat.not_lt_zero t)) (by rfl) (by rfl) (by rfl) _ _ hP hD hS ls (lv_sub hl [1, 2, 0] rfl)
