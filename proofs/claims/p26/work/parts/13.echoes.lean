/-! echoes: reflections, ghosts in order -/
/-- the reflections of the first i parts: how many, where, how high -/
def ftFl (kf pf rf p0 h0 : Nat → Int32) : Nat → Nat × (Nat → Int32) × (Nat → Int32)
  | 0 => (0, p0, h0)
  | i + 1 => if kf i = 1 then ((ftFl kf pf rf p0 h0 i).1 + 1, upd (ftFl kf pf rf p0 h0 i).2.1 (ftFl kf pf rf p0 h0 i).1 (pf i), upd (ftFl kf pf rf p0 h0 i).2.2 (ftFl kf pf rf p0 h0 i).1 (rf i)) else ftFl kf pf rf p0 h0 i
/-- with the end's -/
def ftFlE (len en : Int32) (kf pf rf p0 h0 : Nat → Int32) (n : Nat) : Nat × (Nat → Int32) × (Nat → Int32) := if 0 < en then ((ftFl kf pf rf p0 h0 n).1 + 1, upd (ftFl kf pf rf p0 h0 n).2.1 (ftFl kf pf rf p0 h0 n).1 len, upd (ftFl kf pf rf p0 h0 n).2.2 (ftFl kf pf rf p0 h0 n).1 en) else ftFl kf pf rf p0 h0 n
theorem ftFl_le (kf pf rf p0 h0 : Nat → Int32) (i : Nat) : (ftFl kf pf rf p0 h0 i).1 ≤ i := by
  induction i with
  | zero => exact Nat.le_refl 0
  | succ i ih =>
    unfold ftFl; split
    · show (ftFl kf pf rf p0 h0 i).1 + 1 ≤ i + 1; omega
    · omega
theorem ftFlE_le (len en : Int32) (kf pf rf p0 h0 : Nat → Int32) (n : Nat) : (ftFlE len en kf pf rf p0 h0 n).1 ≤ n + 1 := by
  have h := ftFl_le kf pf rf p0 h0 n
  unfold ftFlE; split
  · show (ftFl kf pf rf p0 h0 n).1 + 1 ≤ n + 1; omega
  · omega
def ftGhPl (f1 f2 : Nat → Int32) (k : Nat) : Int32 := 2 * f2 k - f1 k
/-- where a ghost at x comes among g others -/
def ftDown (f1 f2 : Nat → Int32) (x : Int32) : Nat → Nat
  | 0 => 0
  | g + 1 => if x < ftGhPl f1 f2 g then ftDown f1 f2 x g else g + 1
theorem ftDown_le (f1 f2 : Nat → Int32) (x : Int32) (g : Nat) : ftDown f1 f2 x g ≤ g := by
  induction g with
  | zero => exact Nat.le_refl 0
  | succ g ih => unfold ftDown; split <;> omega
theorem ftDown_gt {f1 f2 : Nat → Int32} {x : Int32} {k : Nat} (hk : 0 < k) (h : x < ftGhPl f1 f2 (k - 1)) : ftDown f1 f2 x k = ftDown f1 f2 x (k - 1) := by
  obtain ⟨j, rfl⟩ : ∃ j, k = j + 1 := ⟨k - 1, by omega⟩
  exact if_pos h
theorem ftDown_ge {f1 f2 : Nat → Int32} {x : Int32} {k : Nat} (hk : 0 < k) (h : ¬ x < ftGhPl f1 f2 (k - 1)) : ftDown f1 f2 x k = k := by
  obtain ⟨j, rfl⟩ : ∃ j, k = j + 1 := ⟨k - 1, by omega⟩
  exact if_neg h
abbrev ftGs : Type := Nat × (Nat → Int32) × (Nat → Int32) × (Nat → Int32)
def ftGhIns (q : ftGs) (a b h : Int32) : ftGs := (q.1 + 1, ftIns q.2.1 q.1 (ftDown q.2.1 q.2.2.1 (2 * b - a) q.1) a, ftIns q.2.2.1 q.1 (ftDown q.2.1 q.2.2.1 (2 * b - a) q.1) b, ftIns q.2.2.2 q.1 (ftDown q.2.1 q.2.2.1 (2 * b - a) q.1) h)
def ftGhH (hs : Nat → Int32) (gl : Int32) (i j : Nat) : Int32 := (hs i + hs j) / 2 - gl
def ftGhStep (ps hs : Nat → Int32) (gl : Int32) (i j : Nat) (q : ftGs) : ftGs := if 0 < ftGhH hs gl i j then ftGhIns q (ps i) (ps j) (ftGhH hs gl i j) else q
def ftGhIn (ps hs : Nat → Int32) (gl : Int32) (i : Nat) (q : ftGs) : Nat → ftGs
  | 0 => q
  | d + 1 => ftGhStep ps hs gl i (i + 1 + d) (ftGhIn ps hs gl i q d)
def ftGhOut (ps hs : Nat → Int32) (gl : Int32) (r : Nat) (q : ftGs) : Nat → ftGs
  | 0 => q
  | i + 1 => ftGhIn ps hs gl i (ftGhOut ps hs gl r q i) (r - (i + 1))
def ftPairs (r : Nat) : Nat → Nat
  | 0 => 0
  | i + 1 => ftPairs r i + (r - (i + 1))
theorem ftPairs_le : ∀ r, r < 12 → ∀ i, i < r → ftPairs r i + (r - (i + 1)) ≤ 55 := by decide
theorem ftPairs_le2 : ∀ r, r < 12 → ∀ i, i < 12 → ftPairs r i ≤ 55 := by decide
theorem ftGhStep_le (ps hs : Nat → Int32) (gl : Int32) (i j : Nat) (q : ftGs) : (ftGhStep ps hs gl i j q).1 ≤ q.1 + 1 := by
  unfold ftGhStep; split
  · exact Nat.le_refl _
  · omega
theorem ftGhIn_le (ps hs : Nat → Int32) (gl : Int32) (i : Nat) (q : ftGs) (d : Nat) : (ftGhIn ps hs gl i q d).1 ≤ q.1 + d := by
  induction d with
  | zero => exact Nat.le_refl _
  | succ d ih => have := ftGhStep_le ps hs gl i (i + 1 + d) (ftGhIn ps hs gl i q d); show (ftGhStep ps hs gl i (i + 1 + d) (ftGhIn ps hs gl i q d)).1 ≤ _; omega
theorem ftGhOut_le (ps hs : Nat → Int32) (gl : Int32) (r : Nat) (q : ftGs) (hq : q.1 = 0) (i : Nat) : (ftGhOut ps hs gl r q i).1 ≤ ftPairs r i := by
  induction i with
  | zero => show q.1 ≤ 0; omega
  | succ i ih =>
    have := ftGhIn_le ps hs gl i (ftGhOut ps hs gl r q i) (r - (i + 1))
    show (ftGhIn ps hs gl i (ftGhOut ps hs gl r q i) (r - (i + 1))).1 ≤ ftPairs r i + (r - (i + 1))
    omega
def ftGhs (R : Nat × (Nat → Int32) × (Nat → Int32)) (gl : Int32) (f1 f2 f3 : Nat → Int32) : ftGs := ftGhOut R.2.1 R.2.2 gl R.1 (0, f1, f2, f3) R.1
theorem ftGh_room {a b r i j : Nat} (h1 : a ≤ ftPairs r i) (h2 : b ≤ a + (j - (i + 1))) (h3 : i + 1 ≤ j) (h4 : j ≤ r) (h5 : r < 12) : b < 55 ∨ r ≤ j := by
  rcases Nat.lt_or_ge j r with q | q
  · have := ftPairs_le r h5 i (by omega)
    exact Or.inl (by omega)
  · exact Or.inr q
set_option maxHeartbeats 4000000 in
set_option maxRecDepth 100000 in
theorem c_X1_ghostPlace (l : Launch) (D : va_G) (cI cS : ClassId) (a0 ap ah af as ag : Nat) (r g : Nat) (f1 f2 : Nat → Int32) (k : Nat) (hk : k < 55) : Met l yX1_ghostPlace wsX1_ghostPlace ({ frames := 1, cells := 0, slots := 0, locals := 21 }) (ftRO D cI cS [.ref a0, .int (nI k)] [(a0, .inr (1, [.ref ap, .ref ah, .int (nI r), .ref af, .ref as, .ref ag, .int (nI g)])), (af, .inl (cI, 55, .inl f1)), (as, .inl (cI, 55, .inl f2))]) (vp_Si (fun o9 => o9 = ftGhPl f1 f2 k)) 0 0 (fun _ => False) := by
  refine Met.ofW (cc := cX1_ghostPlace) (maxL := 2) (ret := (some .int)) (by decide) rfl ?_
  intro p e s m args below meth c s₁ B hml hv
  obtain ⟨rfl, hP, hKK⟩ := hv
  have hK := hKK.1
  have hx := B.exec
  have hb := B.bytes
  have hr := B.returns
  have hts := atoms_spec (ws := wsX1_ghostPlace) B.pre
  have hown : s.vm.findClass RX1 = some m.cls := findClass_of_methodNamed B.named
  have hlocks := B.notSynchronized
  have hP : va_P D vwCl [(a0, .inr (1, [.ref ap, .ref ah, .int (nI r), .ref af, .ref as, .ref ag, .int (nI g)])), (af, .inl (cI, 55, .inl f1)), (as, .inl (cI, 55, .inl f2))] s.heap := hP
  have hl := lv_entry ([.ref a0, .int (nI k)]) (n := 2) (Nat.le_of_ble_eq_true rfl)
  rw [lg_entry_eq]
  generalize (lg_sl ([.ref a0, .int (nI k)]) ++ List.replicate (2 - (lg_sl ([.ref a0, .int (nI k)])).length) Slot.unset).toArray = ls at hl ⊢
  have hl : lv_has ls 2 [(0, .ref a0), (1, .int (nI k))] := hl
  refine lv_iconst (v := 2) hx hb dX1_ghostPlace_0 (by decide) ?_
  refine lv_aload_n hx hb dX1_ghostPlace_1 rfl (lv_at hl 0 rfl) ?_
  refine va_get (D := D) (ci := 1) (v := .ref as) (C := RX1) (T := TX1) (N := 7) hx hb hts (by decide +kernel) hown hK hP 0 rfl rfl 4 (by decide) (hts (.fieldLink RX1 21 "FiberTrace$Echoes" "seconds" "[I") (by decide +kernel)) (fun _ h9 => h9) rfl dX1_ghostPlace_2 ?_
  refine lv_iload_n hx hb dX1_ghostPlace_5 rfl (lv_at hl 1 rfl) ?_
  refine ft_csi (r := ftAt 55 f2 (nI k)) (va_runSN (As := [.ref as, .int (nI k)]) (rest := [.int 2]) ⟨hx, hb, hml, hown, hts⟩ (c_X10_at l D cI cS as 55 f2 (nI k) (by first | assumption | omega)) ⟨va_cnB 2 hts gX1_ghostPlace_X10_at_n38 rfl rfl rfl (hKK.2 _ (List.mem_of_getElem? (i := 13) rfl)) (hts (.initialized RX10) (by decide +kernel)) (by decide +kernel) ⟨Nat.le_of_ble_eq_true rfl, Nat.le_of_ble_eq_true rfl⟩, hts (.static yX10_at) (by decide +kernel), trivial⟩ (ft_preRO hP hKK [2] rfl) rfl rfl hl.1 rfl (lv_room (Nat.le_of_ble_eq_true rfl)) dX1_ghostPlace_6 ⟨Nat.le_of_ble_eq_true rfl, Nat.le_of_ble_eq_true rfl⟩) ?_
  refine ft_top (y := f2 k) (ftAt_N (by omega) (by omega)) ?_
  refine lv_imul hx hb dX1_ghostPlace_9 ?_
  refine lv_aload_n hx hb dX1_ghostPlace_10 rfl (lv_at hl 0 rfl) ?_
  refine va_get (D := D) (ci := 1) (v := .ref af) (C := RX1) (T := TX1) (N := 7) hx hb hts (by decide +kernel) hown hK hP 0 rfl rfl 3 (by decide) (hts (.fieldLink RX1 18 "FiberTrace$Echoes" "firsts" "[I") (by decide +kernel)) (fun _ h9 => h9) rfl dX1_ghostPlace_11 ?_
  refine lv_iload_n hx hb dX1_ghostPlace_14 rfl (lv_at hl 1 rfl) ?_
  refine ft_csi (r := ftAt 55 f1 (nI k)) (va_runSN (As := [.ref af, .int (nI k)]) (rest := [.int (2 * (f2 k))]) ⟨hx, hb, hml, hown, hts⟩ (c_X10_at l D cI cS af 55 f1 (nI k) (by first | assumption | omega)) ⟨va_cnB 2 hts gX1_ghostPlace_X10_at_n38 rfl rfl rfl (hKK.2 _ (List.mem_of_getElem? (i := 13) rfl)) (hts (.initialized RX10) (by decide +kernel)) (by decide +kernel) ⟨Nat.le_of_ble_eq_true rfl, Nat.le_of_ble_eq_true rfl⟩, hts (.static yX10_at) (by decide +kernel), trivial⟩ (ft_preRO hP hKK [1] rfl) rfl rfl hl.1 rfl (lv_room (Nat.le_of_ble_eq_true rfl)) dX1_ghostPlace_15 ⟨Nat.le_of_ble_eq_true rfl, Nat.le_of_ble_eq_true rfl⟩) ?_
  refine ft_top (y := f1 k) (ftAt_N (by omega) (by omega)) ?_
  refine lv_isub hx hb dX1_ghostPlace_18 ?_
  exact W.iret (v := (2 * (f2 k)) - (f1 k)) hx hb hr (fun t ht hW => ⟨(2 * (f2 k)) - (f1 k), rfl, rfl, ht⟩) (fun _ h9 => absurd h9 List.not_mem_nil) dX1_ghostPlace_19
set_option maxHeartbeats 4000000 in
set_option maxRecDepth 100000 in
theorem c_X1_addReflection (l : Launch) (D : va_G) (cI cS : ClassId) (sz : Nat) (a0 ap ah af as ag : Nat) (r g : Nat) (pe he : Nat → Int32) (x y : Int32) (hr0 : r < 11) : Met l yX1_addReflection wsX1_addReflection ({ frames := 1, cells := 0, slots := 0, locals := 22 }) (ftRW D cI cS [.ref a0, .int x, .int y] [(a0, .inr (1, [.ref ap, .ref ah, .int (nI r), .ref af, .ref as, .ref ag, .int (nI g)])), (ap, .inl (cI, 11, .inl pe)), (ah, .inl (cI, 11, .inl he))] sz) (ftQv D [(a0, .inr (1, [.ref ap, .ref ah, .int (nI r), .ref af, .ref as, .ref ag, .int (nI g)])), (ap, .inl (cI, 11, .inl pe)), (ah, .inl (cI, 11, .inl he))] [(a0, .inr (1, [.ref ap, .ref ah, .int (nI (r + 1)), .ref af, .ref as, .ref ag, .int (nI g)])), (ap, .inl (cI, 11, .inl (upd pe r x))), (ah, .inl (cI, 11, .inl (upd he r y)))] sz) 0 0 (va_A [(a0, .inr (1, [.ref ap, .ref ah, .int (nI r), .ref af, .ref as, .ref ag, .int (nI g)])), (ap, .inl (cI, 11, .inl pe)), (ah, .inl (cI, 11, .inl he))] sz) := by
  refine Met.ofW (cc := cX1_addReflection) (maxL := 3) (ret := none) (by decide) rfl ?_
  intro p e s m args below meth c s₁ B hml hv
  obtain ⟨rfl, hsz, hP, hKK, hD0⟩ := hv
  have hK := hKK.1
  have hx := B.exec
  have hb := B.bytes
  have hr := B.returns
  have hts := atoms_spec (ws := wsX1_addReflection) B.pre
  have hown : s.vm.findClass RX1 = some m.cls := findClass_of_methodNamed B.named
  have hlocks := B.notSynchronized
  subst hsz
  have hD := hD0.self (sz := s.heap.size)
  generalize hAe : va_A [(a0, .inr (1, [.ref ap, .ref ah, .int (nI r), .ref af, .ref as, .ref ag, .int (nI g)])), (ap, .inl (cI, 11, .inl pe)), (ah, .inl (cI, 11, .inl he))] s.heap.size = A at hD ⊢
  have hA : ∀ q : Nat, s.heap.size ≤ q → A q := fun q h => by rw [← hAe]; exact Or.inr h
  have hS : va_S A s.heap s.heap [] := va_S.rf
  have hD : va_D A [(a0, .inr (1, [.ref ap, .ref ah, .int (nI r), .ref af, .ref as, .ref ag, .int (nI g)])), (ap, .inl (cI, 11, .inl pe)), (ah, .inl (cI, 11, .inl he))] := hD
  have hP : va_P D vwCl [(a0, .inr (1, [.ref ap, .ref ah, .int (nI r), .ref af, .ref as, .ref ag, .int (nI g)])), (ap, .inl (cI, 11, .inl pe)), (ah, .inl (cI, 11, .inl he))] s.heap := hP
  have hl := lv_entry ([.ref a0, .int x, .int y]) (n := 3) (Nat.le_of_ble_eq_true rfl)
  rw [lg_entry_eq]
  generalize (lg_sl ([.ref a0, .int x, .int y]) ++ List.replicate (3 - (lg_sl ([.ref a0, .int x, .int y])).length) Slot.unset).toArray = ls at hl ⊢
  have hl : lv_has ls 3 [(0, .ref a0), (1, .int x), (2, .int y)] := hl
  refine lv_aload_n hx hb dX1_addReflection_0 rfl (lv_at hl 0 rfl) ?_
  refine va_get (D := D) (ci := 1) (v := .ref ap) (C := RX1) (T := TX1) (N := 7) hx hb hts (by decide +kernel) hown hK hP 0 rfl rfl 0 (by decide) (hts (.fieldLink RX1 9 "FiberTrace$Echoes" "places" "[I") (by decide +kernel)) (fun _ h9 => h9) rfl dX1_addReflection_1 ?_
  refine lv_aload_n hx hb dX1_addReflection_4 rfl (lv_at hl 0 rfl) ?_
  refine va_get (D := D) (ci := 1) (v := .int (nI r)) (C := RX1) (T := TX1) (N := 7) hx hb hts (by decide +kernel) hown hK hP 0 rfl rfl 2 (by decide) (hts (.fieldLink RX1 35 "FiberTrace$Echoes" "reflections" "I") (by decide +kernel)) (fun _ h9 => h9) rfl dX1_addReflection_5 ?_
  refine lv_iload_n hx hb dX1_addReflection_8 rfl (lv_at hl 1 rfl) ?_
  refine ft_cv (wc := [(ap, .inl (cI, 11, .inl pe))]) (wr := [(a0, .inr (1, [.ref ap, .ref ah, .int (nI r), .ref af, .ref as, .ref ag, .int (nI g)])), (ah, .inl (cI, 11, .inl he))]) (w1 := [(ap, .inl (cI, 11, .inl (ftPut 11 pe (nI r) x)))]) (ws1 := [(a0, .inr (1, [.ref ap, .ref ah, .int (nI r), .ref af, .ref as, .ref ag, .int (nI g)])), (ap, .inl (cI, 11, .inl (ftPut 11 pe (nI r) x))), (ah, .inl (cI, 11, .inl he))]) (va_runSN (As := [.ref ap, .int (nI r), .int x]) (rest := []) ⟨hx, hb, hml, hown, hts⟩ (c_X10_put l D cI cS s.heap.size ap 11 pe (nI r) x (by first | assumption | omega)) ⟨va_cnB 3 hts gX1_addReflection_X10_put_n67 rfl rfl rfl (hKK.2 _ (List.mem_of_getElem? (i := 14) rfl)) (hts (.initialized RX10) (by decide +kernel)) (by decide +kernel) ⟨Nat.le_of_ble_eq_true rfl, Nat.le_of_ble_eq_true rfl⟩, hts (.static yX10_put) (by decide +kernel), trivial⟩ (ft_preRW hP hD hKK [1] rfl rfl rfl) rfl rfl hl.1 rfl (lv_room (Nat.le_of_ble_eq_true rfl)) dX1_addReflection_9 ⟨Nat.le_of_ble_eq_true rfl, Nat.le_of_ble_eq_true rfl⟩) hP hD hS hA [1] [0, 2] [0, 2, 1] rfl rfl (by decide) (by decide) (by decide) rfl rfl (fun H locs hP hD hS => ?_)
  rw [ftPut_N (k := r) (by omega) (by omega)] at hP hD
  have hP : va_P D vwCl [(a0, .inr (1, [.ref ap, .ref ah, .int (nI r), .ref af, .ref as, .ref ag, .int (nI g)])), (ap, .inl (cI, 11, .inl (upd pe r x))), (ah, .inl (cI, 11, .inl he))] H := hP
  have hD : va_D A [(a0, .inr (1, [.ref ap, .ref ah, .int (nI r), .ref af, .ref as, .ref ag, .int (nI g)])), (ap, .inl (cI, 11, .inl (upd pe r x))), (ah, .inl (cI, 11, .inl he))] := hD
  refine lv_aload_n hx hb dX1_addReflection_12 rfl (lv_at hl 0 rfl) ?_
  refine va_get (D := D) (ci := 1) (v := .ref ah) (C := RX1) (T := TX1) (N := 7) hx hb hts (by decide +kernel) hown hK hP 0 rfl rfl 1 (by decide) (hts (.fieldLink RX1 15 "FiberTrace$Echoes" "heights" "[I") (by decide +kernel)) (fun _ h9 => h9) rfl dX1_addReflection_13 ?_
  refine lv_aload_n hx hb dX1_addReflection_16 rfl (lv_at hl 0 rfl) ?_
  refine va_get (D := D) (ci := 1) (v := .int (nI r)) (C := RX1) (T := TX1) (N := 7) hx hb hts (by decide +kernel) hown hK hP 0 rfl rfl 2 (by decide) (hts (.fieldLink RX1 35 "FiberTrace$Echoes" "reflections" "I") (by decide +kernel)) (fun _ h9 => h9) rfl dX1_addReflection_17 ?_
  refine lv_iload_n hx hb dX1_addReflection_20 rfl (lv_at hl 2 rfl) ?_
  refine ft_cv (wc := [(ah, .inl (cI, 11, .inl he))]) (wr := [(a0, .inr (1, [.ref ap, .ref ah, .int (nI r), .ref af, .ref as, .ref ag, .int (nI g)])), (ap, .inl (cI, 11, .inl (upd pe r x)))]) (w1 := [(ah, .inl (cI, 11, .inl (ftPut 11 he (nI r) y)))]) (ws1 := [(a0, .inr (1, [.ref ap, .ref ah, .int (nI r), .ref af, .ref as, .ref ag, .int (nI g)])), (ap, .inl (cI, 11, .inl (upd pe r x))), (ah, .inl (cI, 11, .inl (ftPut 11 he (nI r) y)))]) (va_runSN (As := [.ref ah, .int (nI r), .int y]) (rest := []) ⟨hx, hb, hml, hown, hts⟩ (c_X10_put l D cI cS H.size ah 11 he (nI r) y (by first | assumption | omega)) ⟨va_cnB 3 hts gX1_addReflection_X10_put_n67 rfl rfl rfl (hKK.2 _ (List.mem_of_getElem? (i := 14) rfl)) (hts (.initialized RX10) (by decide +kernel)) (by decide +kernel) ⟨Nat.le_of_ble_eq_true rfl, Nat.le_of_ble_eq_true rfl⟩, hts (.static yX10_put) (by decide +kernel), trivial⟩ (ft_preRW hP hD hKK [2] rfl rfl rfl) rfl rfl hl.1 rfl (lv_room (Nat.le_of_ble_eq_true rfl)) dX1_addReflection_21 ⟨Nat.le_of_ble_eq_true rfl, Nat.le_of_ble_eq_true rfl⟩) hP hD hS hA [2] [0, 1] [0, 1, 2] rfl rfl (by decide) (by decide) (by decide) rfl rfl (fun H locs hP hD hS => ?_)
  rw [ftPut_N (k := r) (by omega) (by omega)] at hP hD
  have hP : va_P D vwCl [(a0, .inr (1, [.ref ap, .ref ah, .int (nI r), .ref af, .ref as, .ref ag, .int (nI g)])), (ap, .inl (cI, 11, .inl (upd pe r x))), (ah, .inl (cI, 11, .inl (upd he r y)))] H := hP
  have hD : va_D A [(a0, .inr (1, [.ref ap, .ref ah, .int (nI r), .ref af, .ref as, .ref ag, .int (nI g)])), (ap, .inl (cI, 11, .inl (upd pe r x))), (ah, .inl (cI, 11, .inl (upd he r y)))] := hD
  refine lv_aload_n hx hb dX1_addReflection_24 rfl (lv_at hl 0 rfl) ?_
  refine lv_dup hx hb dX1_addReflection_25 rfl ?_
  refine va_get (D := D) (ci := 1) (v := .int (nI r)) (C := RX1) (T := TX1) (N := 7) hx hb hts (by decide +kernel) hown hK hP 0 rfl rfl 2 (by decide) (hts (.fieldLink RX1 35 "FiberTrace$Echoes" "reflections" "I") (by decide +kernel)) (fun _ h9 => h9) rfl dX1_addReflection_26 ?_
  refine lv_iconst (v := 1) hx hb dX1_addReflection_29 (by decide) ?_
  refine lv_iadd hx hb dX1_addReflection_30 ?_
  refine ft_top (y := nI (r + 1)) (ft_addN r 1) ?_
  refine va_put (D := D) (ci := 1) (v := .int (nI (r + 1))) (ty := .int) (C := RX1) (T := TX1) (N := 7) hx hb hts (by decide +kernel) tyX1 tyX1_ok nmX1 hown hK hP hD hS 0 rfl rfl 2 (by decide) (hts (.fieldLink RX1 35 "FiberTrace$Echoes" "reflections" "I") (by decide +kernel)) (fun _ h9 => h9) rfl (by decide +kernel) rfl rfl (Nat.le_of_ble_eq_true rfl) dX1_addReflection_31 (fun H locs hP hD hS => ?_)
  have hP : va_P D vwCl [(a0, .inr (1, [.ref ap, .ref ah, .int (nI (r + 1)), .ref af, .ref as, .ref ag, .int (nI g)])), (ap, .inl (cI, 11, .inl (upd pe r x))), (ah, .inl (cI, 11, .inl (upd he r y)))] H := hP
  have hD : va_D A [(a0, .inr (1, [.ref ap, .ref ah, .int (nI (r + 1)), .ref af, .ref as, .ref ag, .int (nI g)])), (ap, .inl (cI, 11, .inl (upd pe r x))), (ah, .inl (cI, 11, .inl (upd he r y)))] := hD
  have hw9 : ([(a0, .inr (1, [.ref ap, .ref ah, .int (nI (r + 1)), .ref af, .ref as, .ref ag, .int (nI g)])), (ap, .inl (cI, 11, .inl (upd pe r x))), (ah, .inl (cI, 11, .inl (upd he r y)))] : va_W) = [(a0, .inr (1, [.ref ap, .ref ah, .int (nI (r + 1)), .ref af, .ref as, .ref ag, .int (nI g)])), (ap, .inl (cI, 11, .inl (upd pe r x))), (ah, .inl (cI, 11, .inl (upd he r y)))] := rfl
  rw [hw9] at hP hD
  exact W.vret hx hb hr (fun t ht hW => ⟨⟨(), rfl, trivial, by rw [ht]; exact hP, by rw [hAe]; exact hD⟩, by rw [hAe]; exact hS.F ht⟩) hS.2.2 dX1_addReflection_34
set_option maxHeartbeats 4000000 in
set_option maxRecDepth 100000 in
theorem c_X1_findReflections (l : Launch) (D : va_G) (cI cS : ClassId) (sz : Nat) (a0 ap ah af as ag : Nat) (r g : Nat) (pe he : Nat → Int32) (b0 : Nat) (len att en : Int32) (n bk bp bl br : Nat) (kf pf rf : Nat → Int32) (hn : n ≤ 10) : Met l yX1_findReflections wsX1_findReflections ({ frames := 2, cells := 0, slots := 0, locals := 44 }) (ftRW D cI cS [.ref a0, .ref b0] [(a0, .inr (1, [.ref ap, .ref ah, .int (nI r), .ref af, .ref as, .ref ag, .int (nI g)])), (ap, .inl (cI, 11, .inl pe)), (ah, .inl (cI, 11, .inl he)), (b0, .inr (4, [.int len, .int att, .int en, .int (nI n), .ref bk, .ref bp, .ref bl, .ref br])), (bk, .inl (cI, 10, .inl kf)), (bp, .inl (cI, 10, .inl pf)), (br, .inl (cI, 10, .inl rf))] sz) (ftQv D [(a0, .inr (1, [.ref ap, .ref ah, .int (nI r), .ref af, .ref as, .ref ag, .int (nI g)])), (ap, .inl (cI, 11, .inl pe)), (ah, .inl (cI, 11, .inl he)), (b0, .inr (4, [.int len, .int att, .int en, .int (nI n), .ref bk, .ref bp, .ref bl, .ref br])), (bk, .inl (cI, 10, .inl kf)), (bp, .inl (cI, 10, .inl pf)), (br, .inl (cI, 10, .inl rf))] [(a0, .inr (1, [.ref ap, .ref ah, .int (nI (ftFlE len en kf pf rf pe he n).1), .ref af, .ref as, .ref ag, .int (nI g)])), (ap, .inl (cI, 11, .inl ((ftFlE len en kf pf rf pe he n).2.1))), (ah, .inl (cI, 11, .inl ((ftFlE len en kf pf rf pe he n).2.2))), (b0, .inr (4, [.int len, .int att, .int en, .int (nI n), .ref bk, .ref bp, .ref bl, .ref br])), (bk, .inl (cI, 10, .inl kf)), (bp, .inl (cI, 10, .inl pf)), (br, .inl (cI, 10, .inl rf))] sz) 0 0 (va_A [(a0, .inr (1, [.ref ap, .ref ah, .int (nI r), .ref af, .ref as, .ref ag, .int (nI g)])), (ap, .inl (cI, 11, .inl pe)), (ah, .inl (cI, 11, .inl he)), (b0, .inr (4, [.int len, .int att, .int en, .int (nI n), .ref bk, .ref bp, .ref bl, .ref br])), (bk, .inl (cI, 10, .inl kf)), (bp, .inl (cI, 10, .inl pf)), (br, .inl (cI, 10, .inl rf))] sz) := by
  refine Met.ofW (cc := cX1_findReflections) (maxL := 3) (ret := none) (by decide) rfl ?_
  intro p e s m args below meth c s₁ B hml hv
  obtain ⟨rfl, hsz, hP, hKK, hD0⟩ := hv
  have hK := hKK.1
  have hx := B.exec
  have hb := B.bytes
  have hr := B.returns
  have hts := atoms_spec (ws := wsX1_findReflections) B.pre
  have hown : s.vm.findClass RX1 = some m.cls := findClass_of_methodNamed B.named
  have hlocks := B.notSynchronized
  subst hsz
  have hD := hD0.self (sz := s.heap.size)
  generalize hAe : va_A [(a0, .inr (1, [.ref ap, .ref ah, .int (nI r), .ref af, .ref as, .ref ag, .int (nI g)])), (ap, .inl (cI, 11, .inl pe)), (ah, .inl (cI, 11, .inl he)), (b0, .inr (4, [.int len, .int att, .int en, .int (nI n), .ref bk, .ref bp, .ref bl, .ref br])), (bk, .inl (cI, 10, .inl kf)), (bp, .inl (cI, 10, .inl pf)), (br, .inl (cI, 10, .inl rf))] s.heap.size = A at hD ⊢
  have hA : ∀ q : Nat, s.heap.size ≤ q → A q := fun q h => by rw [← hAe]; exact Or.inr h
  have hS : va_S A s.heap s.heap [] := va_S.rf
  have hD : va_D A [(a0, .inr (1, [.ref ap, .ref ah, .int (nI r), .ref af, .ref as, .ref ag, .int (nI g)])), (ap, .inl (cI, 11, .inl pe)), (ah, .inl (cI, 11, .inl he)), (b0, .inr (4, [.int len, .int att, .int en, .int (nI n), .ref bk, .ref bp, .ref bl, .ref br])), (bk, .inl (cI, 10, .inl kf)), (bp, .inl (cI, 10, .inl pf)), (br, .inl (cI, 10, .inl rf))] := hD
  have hP : va_P D vwCl [(a0, .inr (1, [.ref ap, .ref ah, .int (nI r), .ref af, .ref as, .ref ag, .int (nI g)])), (ap, .inl (cI, 11, .inl pe)), (ah, .inl (cI, 11, .inl he)), (b0, .inr (4, [.int len, .int att, .int en, .int (nI n), .ref bk, .ref bp, .ref bl, .ref br])), (bk, .inl (cI, 10, .inl kf)), (bp, .inl (cI, 10, .inl pf)), (br, .inl (cI, 10, .inl rf))] s.heap := hP
  have hl := lv_entry ([.ref a0, .ref b0]) (n := 3) (Nat.le_of_ble_eq_true rfl)
  rw [lg_entry_eq]
  generalize (lg_sl ([.ref a0, .ref b0]) ++ List.replicate (3 - (lg_sl ([.ref a0, .ref b0])).length) Slot.unset).toArray = ls at hl ⊢
  have hl : lv_has ls 3 [(0, .ref a0), (1, .ref b0)] := hl
  refine lv_aload_n hx hb dX1_findReflections_0 rfl (lv_at hl 0 rfl) ?_
  refine lv_iconst (v := 0) hx hb dX1_findReflections_1 (by decide) ?_
  refine va_put (D := D) (ci := 1) (v := .int 0) (ty := .int) (C := RX1) (T := TX1) (N := 7) hx hb hts (by decide +kernel) tyX1 tyX1_ok nmX1 hown hK hP hD hS 0 rfl rfl 2 (by decide) (hts (.fieldLink RX1 35 "FiberTrace$Echoes" "reflections" "I") (by decide +kernel)) (fun _ h9 => h9) rfl (by decide +kernel) rfl rfl (Nat.le_of_ble_eq_true rfl) dX1_findReflections_2 (fun H locs hP hD hS => ?_)
  have hP : va_P D vwCl [(a0, .inr (1, [.ref ap, .ref ah, .int 0, .ref af, .ref as, .ref ag, .int (nI g)])), (ap, .inl (cI, 11, .inl pe)), (ah, .inl (cI, 11, .inl he)), (b0, .inr (4, [.int len, .int att, .int en, .int (nI n), .ref bk, .ref bp, .ref bl, .ref br])), (bk, .inl (cI, 10, .inl kf)), (bp, .inl (cI, 10, .inl pf)), (br, .inl (cI, 10, .inl rf))] H := hP
  have hD : va_D A [(a0, .inr (1, [.ref ap, .ref ah, .int 0, .ref af, .ref as, .ref ag, .int (nI g)])), (ap, .inl (cI, 11, .inl pe)), (ah, .inl (cI, 11, .inl he)), (b0, .inr (4, [.int len, .int att, .int en, .int (nI n), .ref bk, .ref bp, .ref bl, .ref br])), (bk, .inl (cI, 10, .inl kf)), (bp, .inl (cI, 10, .inl pf)), (br, .inl (cI, 10, .inl rf))] := hD
  refine lv_iconst (v := 0) hx hb dX1_findReflections_5 (by decide) ?_
  refine lv_istore_n (lv' := [(2, .int 0), (0, .ref a0), (1, .ref b0)]) hx hb dX1_findReflections_6 rfl hl (by decide) rfl (fun ls hl => ?_)
  have lp7 : ∀ (n7 : Nat) (i q : Nat) (x7_2 : Int32) (g7_a0_2 : Int32) (g7_ap : Nat → Int32) (g7_ah : Nat → Int32), n - i < n7 → (i ≤ n) → (q = (ftFl kf pf rf pe he i).1) → x7_2 = nI i → g7_a0_2 = nI q → g7_ap = (ftFl kf pf rf pe he i).2.1 → g7_ah = (ftFl kf pf rf pe he i).2.2 → ∀ (H : Heap) (locs : List Loc), va_P D vwCl [(a0, .inr (1, [.ref ap, .ref ah, .int g7_a0_2, .ref af, .ref as, .ref ag, .int (nI g)])), (ap, .inl (cI, 11, .inl g7_ap)), (ah, .inl (cI, 11, .inl g7_ah)), (b0, .inr (4, [.int len, .int att, .int en, .int (nI n), .ref bk, .ref bp, .ref bl, .ref br])), (bk, .inl (cI, 10, .inl kf)), (bp, .inl (cI, 10, .inl pf)), (br, .inl (cI, 10, .inl rf))] H → va_D A [(a0, .inr (1, [.ref ap, .ref ah, .int g7_a0_2, .ref af, .ref as, .ref ag, .int (nI g)])), (ap, .inl (cI, 11, .inl g7_ap)), (ah, .inl (cI, 11, .inl g7_ah)), (b0, .inr (4, [.int len, .int att, .int en, .int (nI n), .ref bk, .ref bp, .ref bl, .ref br])), (bk, .inl (cI, 10, .inl kf)), (bp, .inl (cI, 10, .inl pf)), (br, .inl (cI, 10, .inl rf))] → va_S A s.heap H locs → ∀ ls : Array Slot, lv_has ls 3 [(0, .ref a0), (1, .ref b0), (2, .int x7_2)] → W p l e (headSpec wsX1_findReflections { frames := 2, cells := 0, slots := 0, locals := 44 }).room s m ([.ref a0, .ref b0] : List Value).toArray below meth c H locs 0 0 (MQ below (ftQv D [(a0, .inr (1, [.ref ap, .ref ah, .int (nI r), .ref af, .ref as, .ref ag, .int (nI g)])), (ap, .inl (cI, 11, .inl pe)), (ah, .inl (cI, 11, .inl he)), (b0, .inr (4, [.int len, .int att, .int en, .int (nI n), .ref bk, .ref bp, .ref bl, .ref br])), (bk, .inl (cI, 10, .inl kf)), (bp, .inl (cI, 10, .inl pf)), (br, .inl (cI, 10, .inl rf))] [(a0, .inr (1, [.ref ap, .ref ah, .int (nI (ftFlE len en kf pf rf pe he n).1), .ref af, .ref as, .ref ag, .int (nI g)])), (ap, .inl (cI, 11, .inl ((ftFlE len en kf pf rf pe he n).2.1))), (ah, .inl (cI, 11, .inl ((ftFlE len en kf pf rf pe he n).2.2))), (b0, .inr (4, [.int len, .int att, .int en, .int (nI n), .ref bk, .ref bp, .ref bl, .ref br])), (bk, .inl (cI, 10, .inl kf)), (bp, .inl (cI, 10, .inl pf)), (br, .inl (cI, 10, .inl rf))] s.heap.size) ([.ref a0, .ref b0] : List Value).toArray s 0 0 A) (F0 m 7 ls []) := by
    intro n7
    induction n7 with
    | zero =>
      intro i q x7_2 g7_a0_2 g7_ap g7_ah hm7
      exact absurd hm7 (Nat.not_lt_zero _)
    | succ n7 ih7 =>
      intro i q x7_2 g7_a0_2 g7_ap g7_ah hm7 hin hq ex7_2 eg7_a0_2 eg7_ap eg7_ah H locs hP hD hS ls hl
      subst ex7_2
      subst eg7_a0_2
      have hqi : q ≤ i := by rw [hq]; exact ftFl_le kf pf rf pe he i
      refine lv_iload_n hx hb dX1_findReflections_7 rfl (lv_at hl 2 rfl) ?_
      refine lv_aload_n hx hb dX1_findReflections_8 rfl (lv_at hl 1 rfl) ?_
      refine va_get (D := D) (ci := 4) (v := .int (nI n)) (C := RX4) (T := TX4) (N := 8) hx hb hts (by decide +kernel) hown hK hP 3 rfl rfl 3 (by decide) (hts (.fieldLink RX1 46 "FiberTrace$Link" "size" "I") (by decide +kernel)) (fun _ h9 => h9) rfl dX1_findReflections_9 ?_
      refine lv_icmp_ge (tgt := 53) hx hb dX1_findReflections_12 (by decide) (fun c12 => ?_) (fun c12 => ?_)
      · have c12n : n ≤ i := ft_leN (by omega) (by omega) c12
        refine lv_aload_n hx hb dX1_findReflections_53 rfl (lv_at hl 1 rfl) ?_
        refine va_get (D := D) (ci := 4) (v := .int en) (C := RX4) (T := TX4) (N := 8) hx hb hts (by decide +kernel) hown hK hP 3 rfl rfl 2 (by decide) (hts (.fieldLink RX1 61 "FiberTrace$Link" "end" "I") (by decide +kernel)) (fun _ h9 => h9) rfl dX1_findReflections_54 ?_
        refine lv_if_le (tgt := 72) hx hb dX1_findReflections_57 (by decide) (fun c57 => ?_) (fun c57 => ?_)
        · have hw9 : ([(a0, .inr (1, [.ref ap, .ref ah, .int (nI q), .ref af, .ref as, .ref ag, .int (nI g)])), (ap, .inl (cI, 11, .inl g7_ap)), (ah, .inl (cI, 11, .inl g7_ah)), (b0, .inr (4, [.int len, .int att, .int en, .int (nI n), .ref bk, .ref bp, .ref bl, .ref br])), (bk, .inl (cI, 10, .inl kf)), (bp, .inl (cI, 10, .inl pf)), (br, .inl (cI, 10, .inl rf))] : va_W) = [(a0, .inr (1, [.ref ap, .ref ah, .int (nI (ftFlE len en kf pf rf pe he n).1), .ref af, .ref as, .ref ag, .int (nI g)])), (ap, .inl (cI, 11, .inl ((ftFlE len en kf pf rf pe he n).2.1))), (ah, .inl (cI, 11, .inl ((ftFlE len en kf pf rf pe he n).2.2))), (b0, .inr (4, [.int len, .int att, .int en, .int (nI n), .ref bk, .ref bp, .ref bl, .ref br])), (bk, .inl (cI, 10, .inl kf)), (bp, .inl (cI, 10, .inl pf)), (br, .inl (cI, 10, .inl rf))] := by (obtain rfl : i = n := by omega); first | (rw [ftFlE, if_neg (Int32.not_lt.mpr c57), eg7_ap, eg7_ah, hq]; done) | (rw [ftFlE, if_pos (Int32.not_le.mp c57), eg7_ap, eg7_ah, hq]; done)
          rw [hw9] at hP hD
          exact W.vret hx hb hr (fun t ht hW => ⟨⟨(), rfl, trivial, by rw [ht]; exact hP, by rw [hAe]; exact hD⟩, by rw [hAe]; exact hS.F ht⟩) hS.2.2 dX1_findReflections_72
        · refine lv_aload_n hx hb dX1_findReflections_60 rfl (lv_at hl 0 rfl) ?_
          refine lv_aload_n hx hb dX1_findReflections_61 rfl (lv_at hl 1 rfl) ?_
          refine va_get (D := D) (ci := 4) (v := .int len) (C := RX4) (T := TX4) (N := 8) hx hb hts (by decide +kernel) hown hK hP 3 rfl rfl 0 (by decide) (hts (.fieldLink RX1 64 "FiberTrace$Link" "length" "I") (by decide +kernel)) (fun _ h9 => h9) rfl dX1_findReflections_62 ?_
          refine lv_aload_n hx hb dX1_findReflections_65 rfl (lv_at hl 1 rfl) ?_
          refine va_get (D := D) (ci := 4) (v := .int en) (C := RX4) (T := TX4) (N := 8) hx hb hts (by decide +kernel) hown hK hP 3 rfl rfl 2 (by decide) (hts (.fieldLink RX1 61 "FiberTrace$Link" "end" "I") (by decide +kernel)) (fun _ h9 => h9) rfl dX1_findReflections_66 ?_
          refine ft_cv (wc := [(a0, .inr (1, [.ref ap, .ref ah, .int (nI q), .ref af, .ref as, .ref ag, .int (nI g)])), (ap, .inl (cI, 11, .inl g7_ap)), (ah, .inl (cI, 11, .inl g7_ah))]) (wr := [(b0, .inr (4, [.int len, .int att, .int en, .int (nI n), .ref bk, .ref bp, .ref bl, .ref br])), (bk, .inl (cI, 10, .inl kf)), (bp, .inl (cI, 10, .inl pf)), (br, .inl (cI, 10, .inl rf))]) (w1 := [(a0, .inr (1, [.ref ap, .ref ah, .int (nI (q + 1)), .ref af, .ref as, .ref ag, .int (nI g)])), (ap, .inl (cI, 11, .inl (upd g7_ap q len))), (ah, .inl (cI, 11, .inl (upd g7_ah q en)))]) (ws1 := [(a0, .inr (1, [.ref ap, .ref ah, .int (nI (q + 1)), .ref af, .ref as, .ref ag, .int (nI g)])), (ap, .inl (cI, 11, .inl (upd g7_ap q len))), (ah, .inl (cI, 11, .inl (upd g7_ah q en))), (b0, .inr (4, [.int len, .int att, .int en, .int (nI n), .ref bk, .ref bp, .ref bl, .ref br])), (bk, .inl (cI, 10, .inl kf)), (bp, .inl (cI, 10, .inl pf)), (br, .inl (cI, 10, .inl rf))]) (va_runV (C := RX1) (As := [.int len, .int en]) (rest := []) ⟨hx, hb, hml, hown, hts⟩ (c_X1_addReflection l D cI cS H.size a0 ap ah af as ag q g g7_ap g7_ah len en (by first | assumption | omega)) (cwV 2 hts gX1_findReflections_X1_addReflection rfl rfl rfl (by decide +kernel) ⟨Nat.le_of_ble_eq_true rfl, Nat.le_of_ble_eq_true rfl⟩) (ft_preRWV (ci := 1) (q0 := 0) hP hD hKK [0, 1, 2] rfl rfl rfl rfl rfl) rfl rfl hl.1 rfl (lv_room (Nat.le_of_ble_eq_true rfl)) dX1_findReflections_69 ⟨Nat.le_of_ble_eq_true rfl, Nat.le_of_ble_eq_true rfl⟩) hP hD hS hA [0, 1, 2] [3, 4, 5, 6] [4, 5, 6, 0, 1, 2, 3] rfl rfl (by decide) (by decide) (by decide) rfl rfl (fun H locs hP hD hS => ?_)
          have hP : va_P D vwCl [(a0, .inr (1, [.ref ap, .ref ah, .int (nI (q + 1)), .ref af, .ref as, .ref ag, .int (nI g)])), (ap, .inl (cI, 11, .inl (upd g7_ap q len))), (ah, .inl (cI, 11, .inl (upd g7_ah q en))), (b0, .inr (4, [.int len, .int att, .int en, .int (nI n), .ref bk, .ref bp, .ref bl, .ref br])), (bk, .inl (cI, 10, .inl kf)), (bp, .inl (cI, 10, .inl pf)), (br, .inl (cI, 10, .inl rf))] H := hP
          have hD : va_D A [(a0, .inr (1, [.ref ap, .ref ah, .int (nI (q + 1)), .ref af, .ref as, .ref ag, .int (nI g)])), (ap, .inl (cI, 11, .inl (upd g7_ap q len))), (ah, .inl (cI, 11, .inl (upd g7_ah q en))), (b0, .inr (4, [.int len, .int att, .int en, .int (nI n), .ref bk, .ref bp, .ref bl, .ref br])), (bk, .inl (cI, 10, .inl kf)), (bp, .inl (cI, 10, .inl pf)), (br, .inl (cI, 10, .inl rf))] := hD
          have hw9 : ([(a0, .inr (1, [.ref ap, .ref ah, .int (nI (q + 1)), .ref af, .ref as, .ref ag, .int (nI g)])), (ap, .inl (cI, 11, .inl (upd g7_ap q len))), (ah, .inl (cI, 11, .inl (upd g7_ah q en))), (b0, .inr (4, [.int len, .int att, .int en, .int (nI n), .ref bk, .ref bp, .ref bl, .ref br])), (bk, .inl (cI, 10, .inl kf)), (bp, .inl (cI, 10, .inl pf)), (br, .inl (cI, 10, .inl rf))] : va_W) = [(a0, .inr (1, [.ref ap, .ref ah, .int (nI (ftFlE len en kf pf rf pe he n).1), .ref af, .ref as, .ref ag, .int (nI g)])), (ap, .inl (cI, 11, .inl ((ftFlE len en kf pf rf pe he n).2.1))), (ah, .inl (cI, 11, .inl ((ftFlE len en kf pf rf pe he n).2.2))), (b0, .inr (4, [.int len, .int att, .int en, .int (nI n), .ref bk, .ref bp, .ref bl, .ref br])), (bk, .inl (cI, 10, .inl kf)), (bp, .inl (cI, 10, .inl pf)), (br, .inl (cI, 10, .inl rf))] := by (obtain rfl : i = n := by omega); first | (rw [ftFlE, if_neg (Int32.not_lt.mpr c57), eg7_ap, eg7_ah, hq]; done) | (rw [ftFlE, if_pos (Int32.not_le.mp c57), eg7_ap, eg7_ah, hq]; done)
          rw [hw9] at hP hD
          exact W.vret hx hb hr (fun t ht hW => ⟨⟨(), rfl, trivial, by rw [ht]; exact hP, by rw [hAe]; exact hD⟩, by rw [hAe]; exact hS.F ht⟩) hS.2.2 dX1_findReflections_72
      · have c12n : i < n := ft_nleN (by omega) (by omega) c12
        refine lv_aload_n hx hb dX1_findReflections_15 rfl (lv_at hl 1 rfl) ?_
        refine va_get (D := D) (ci := 4) (v := .ref bk) (C := RX4) (T := TX4) (N := 8) hx hb hts (by decide +kernel) hown hK hP 3 rfl rfl 4 (by decide) (hts (.fieldLink RX1 51 "FiberTrace$Link" "kinds" "[I") (by decide +kernel)) (fun _ h9 => h9) rfl dX1_findReflections_16 ?_
        refine lv_iload_n hx hb dX1_findReflections_19 rfl (lv_at hl 2 rfl) ?_
        refine ft_csi (r := ftAt 10 kf (nI i)) (va_runSN (As := [.ref bk, .int (nI i)]) (rest := []) ⟨hx, hb, hml, hown, hts⟩ (c_X10_at l D cI cS bk 10 kf (nI i) (by first | assumption | omega)) ⟨va_cnB 2 hts gX1_findReflections_X10_at_n38 rfl rfl rfl (hKK.2 _ (List.mem_of_getElem? (i := 13) rfl)) (hts (.initialized RX10) (by decide +kernel)) (by decide +kernel) ⟨Nat.le_of_ble_eq_true rfl, Nat.le_of_ble_eq_true rfl⟩, hts (.static yX10_at) (by decide +kernel), trivial⟩ (ft_preRO hP hKK [4] rfl) rfl rfl hl.1 rfl (lv_room (Nat.le_of_ble_eq_true rfl)) dX1_findReflections_20 ⟨Nat.le_of_ble_eq_true rfl, Nat.le_of_ble_eq_true rfl⟩) ?_
        refine ft_top (y := kf i) (ftAt_N (by omega) (by omega)) ?_
        refine lv_iconst (v := 1) hx hb dX1_findReflections_23 (by decide) ?_
        refine lv_icmp_ne (tgt := 47) hx hb dX1_findReflections_24 (by decide) (fun c24 => ?_) (fun c24 => ?_)
        · refine lv_iinc (v := nI (i + 1)) (lv' := [(2, .int (nI (i + 1))), (0, .ref a0), (1, .ref b0)]) hx hb dX1_findReflections_47 hl (k := 2) rfl (ft_inc i) (by decide) rfl (fun ls hl => ?_)
          refine lv_goto (tgt := 7) hx hb dX1_findReflections_50 (by decide) ?_
          exact ih7 (i + 1) q (nI (i + 1)) (nI q) g7_ap g7_ah (by omega) (by omega) (by first | (rw [ftFl, if_pos c24, hq]; done) | (rw [ftFl, if_neg c24]; exact hq)) (by first | rfl | assumption) (by first | rfl | assumption) (by first | (rw [ftFl, if_pos c24, eg7_ap, hq]; done) | (rw [ftFl, if_neg c24]; exact eg7_ap)) (by first | (rw [ftFl, if_pos c24, eg7_ah, hq]; done) | (rw [ftFl, if_neg c24]; exact eg7_ah)) _ _ hP hD hS ls (lv_sub hl [1, 2, 0] rfl)
        · refine lv_aload_n hx hb dX1_findReflections_27 rfl (lv_at hl 0 rfl) ?_
          refine lv_aload_n hx hb dX1_findReflections_28 rfl (lv_at hl 1 rfl) ?_
          refine va_get (D := D) (ci := 4) (v := .ref bp) (C := RX4) (T := TX4) (N := 8) hx hb hts (by decide +kernel) hown hK hP 3 rfl rfl 5 (by decide) (hts (.fieldLink RX1 54 "FiberTrace$Link" "places" "[I") (by decide +kernel)) (fun _ h9 => h9) rfl dX1_findReflections_29 ?_
          refine lv_iload_n hx hb dX1_findReflections_32 rfl (lv_at hl 2 rfl) ?_
          refine ft_csi (r := ftAt 10 pf (nI i)) (va_runSN (As := [.ref bp, .int (nI i)]) (rest := [.ref a0]) ⟨hx, hb, hml, hown, hts⟩ (c_X10_at l D cI cS bp 10 pf (nI i) (by first | assumption | omega)) ⟨va_cnB 2 hts gX1_findReflections_X10_at_n38 rfl rfl rfl (hKK.2 _ (List.mem_of_getElem? (i := 13) rfl)) (hts (.initialized RX10) (by decide +kernel)) (by decide +kernel) ⟨Nat.le_of_ble_eq_true rfl, Nat.le_of_ble_eq_true rfl⟩, hts (.static yX10_at) (by decide +kernel), trivial⟩ (ft_preRO hP hKK [5] rfl) rfl rfl hl.1 rfl (lv_room (Nat.le_of_ble_eq_true rfl)) dX1_findReflections_33 ⟨Nat.le_of_ble_eq_true rfl, Nat.le_of_ble_eq_true rfl⟩) ?_
          refine ft_top (y := pf i) (ftAt_N (by omega) (by omega)) ?_
          refine lv_aload_n hx hb dX1_findReflections_36 rfl (lv_at hl 1 rfl) ?_
          refine va_get (D := D) (ci := 4) (v := .ref br) (C := RX4) (T := TX4) (N := 8) hx hb hts (by decide +kernel) hown hK hP 3 rfl rfl 7 (by decide) (hts (.fieldLink RX1 55 "FiberTrace$Link" "reflections" "[I") (by decide +kernel)) (fun _ h9 => h9) rfl dX1_findReflections_37 ?_
          refine lv_iload_n hx hb dX1_findReflections_40 rfl (lv_at hl 2 rfl) ?_
          refine ft_csi (r := ftAt 10 rf (nI i)) (va_runSN (As := [.ref br, .int (nI i)]) (rest := [.int (pf i), .ref a0]) ⟨hx, hb, hml, hown, hts⟩ (c_X10_at l D cI cS br 10 rf (nI i) (by first | assumption | omega)) ⟨va_cnB 2 hts gX1_findReflections_X10_at_n38 rfl rfl rfl (hKK.2 _ (List.mem_of_getElem? (i := 13) rfl)) (hts (.initialized RX10) (by decide +kernel)) (by decide +kernel) ⟨Nat.le_of_ble_eq_true rfl, Nat.le_of_ble_eq_true rfl⟩, hts (.static yX10_at) (by decide +kernel), trivial⟩ (ft_preRO hP hKK [6] rfl) rfl rfl hl.1 rfl (lv_room (Nat.le_of_ble_eq_true rfl)) dX1_findReflections_41 ⟨Nat.le_of_ble_eq_true rfl, Nat.le_of_ble_eq_true rfl⟩) ?_
          refine ft_top (y := rf i) (ftAt_N (by omega) (by omega)) ?_
          refine ft_cv (wc := [(a0, .inr (1, [.ref ap, .ref ah, .int (nI q), .ref af, .ref as, .ref ag, .int (nI g)])), (ap, .inl (cI, 11, .inl g7_ap)), (ah, .inl (cI, 11, .inl g7_ah))]) (wr := [(b0, .inr (4, [.int len, .int att, .int en, .int (nI n), .ref bk, .ref bp, .ref bl, .ref br])), (bk, .inl (cI, 10, .inl kf)), (bp, .inl (cI, 10, .inl pf)), (br, .inl (cI, 10, .inl rf))]) (w1 := [(a0, .inr (1, [.ref ap, .ref ah, .int (nI (q + 1)), .ref af, .ref as, .ref ag, .int (nI g)])), (ap, .inl (cI, 11, .inl (upd g7_ap q (pf i)))), (ah, .inl (cI, 11, .inl (upd g7_ah q (rf i))))]) (ws1 := [(a0, .inr (1, [.ref ap, .ref ah, .int (nI (q + 1)), .ref af, .ref as, .ref ag, .int (nI g)])), (ap, .inl (cI, 11, .inl (upd g7_ap q (pf i)))), (ah, .inl (cI, 11, .inl (upd g7_ah q (rf i)))), (b0, .inr (4, [.int len, .int att, .int en, .int (nI n), .ref bk, .ref bp, .ref bl, .ref br])), (bk, .inl (cI, 10, .inl kf)), (bp, .inl (cI, 10, .inl pf)), (br, .inl (cI, 10, .inl rf))]) (va_runV (C := RX1) (As := [.int (pf i), .int (rf i)]) (rest := []) ⟨hx, hb, hml, hown, hts⟩ (c_X1_addReflection l D cI cS H.size a0 ap ah af as ag q g g7_ap g7_ah (pf i) (rf i) (by first | assumption | omega)) (cwV 2 hts gX1_findReflections_X1_addReflection rfl rfl rfl (by decide +kernel) ⟨Nat.le_of_ble_eq_true rfl, Nat.le_of_ble_eq_true rfl⟩) (ft_preRWV (ci := 1) (q0 := 0) hP hD hKK [0, 1, 2] rfl rfl rfl rfl rfl) rfl rfl hl.1 rfl (lv_room (Nat.le_of_ble_eq_true rfl)) dX1_findReflections_44 ⟨Nat.le_of_ble_eq_true rfl, Nat.le_of_ble_eq_true rfl⟩) hP hD hS hA [0, 1, 2] [3, 4, 5, 6] [4, 5, 6, 0, 1, 2, 3] rfl rfl (by decide) (by decide) (by decide) rfl rfl (fun H locs hP hD hS => ?_)
          have hP : va_P D vwCl [(a0, .inr (1, [.ref ap, .ref ah, .int (nI (q + 1)), .ref af, .ref as, .ref ag, .int (nI g)])), (ap, .inl (cI, 11, .inl (upd g7_ap q (pf i)))), (ah, .inl (cI, 11, .inl (upd g7_ah q (rf i)))), (b0, .inr (4, [.int len, .int att, .int en, .int (nI n), .ref bk, .ref bp, .ref bl, .ref br])), (bk, .inl (cI, 10, .inl kf)), (bp, .inl (cI, 10, .inl pf)), (br, .inl (cI, 10, .inl rf))] H := hP
          have hD : va_D A [(a0, .inr (1, [.ref ap, .ref ah, .int (nI (q + 1)), .ref af, .ref as, .ref ag, .int (nI g)])), (ap, .inl (cI, 11, .inl (upd g7_ap q (pf i)))), (ah, .inl (cI, 11, .inl (upd g7_ah q (rf i)))), (b0, .inr (4, [.int len, .int att, .int en, .int (nI n), .ref bk, .ref bp, .ref bl, .ref br])), (bk, .inl (cI, 10, .inl kf)), (bp, .inl (cI, 10, .inl pf)), (br, .inl (cI, 10, .inl rf))] := hD
          refine lv_iinc (v := nI (i + 1)) (lv' := [(2, .int (nI (i + 1))), (0, .ref a0), (1, .ref b0)]) hx hb dX1_findReflections_47 hl (k := 2) rfl (ft_inc i) (by decide) rfl (fun ls hl => ?_)
          refine lv_goto (tgt := 7) hx hb dX1_findReflections_50 (by decide) ?_
          exact ih7 (i + 1) (q + 1) (nI (i + 1)) (nI (q + 1)) (upd g7_ap q (pf i)) (upd g7_ah q (rf i)) (by omega) (by omega) (by first | (rw [ftFl, if_pos c24, hq]; done) | (rw [ftFl, if_neg c24]; exact hq)) (by first | rfl | assumption) (by first | rfl | assumption) (by first | (rw [ftFl, if_pos c24, eg7_ap, hq]; done) | (rw [ftFl, if_neg c24]; exact eg7_ap)) (by first | (rw [ftFl, if_pos c24, eg7_ah, hq]; done) | (rw [ftFl, if_neg c24]; exact eg7_ah)) _ _ hP hD hS ls (lv_sub hl [1, 2, 0] rfl)
  exact lp7 _ 0 0 0 0 pe he (Nat.lt_succ_self _) (by omega) (by rfl) (by rfl) (by rfl) (by rfl) (by rfl) _ _ hP hD hS ls (lv_sub hl [1, 2, 0] rfl)
set_option maxHeartbeats 4000000 in
set_option maxRecDepth 100000 in
theorem c_X1_addGhost (l : Launch) (D : va_G) (cI cS : ClassId) (sz : Nat) (a0 ap ah af as ag : Nat) (r g : Nat) (f1 f2 f3 : Nat → Int32) (x y h : Int32) (hg : g < 55) : Met l yX1_addGhost wsX1_addGhost ({ frames := 2, cells := 0, slots := 0, locals := 46 }) (ftRW D cI cS [.ref a0, .int x, .int y, .int h] [(a0, .inr (1, [.ref ap, .ref ah, .int (nI r), .ref af, .ref as, .ref ag, .int (nI g)])), (af, .inl (cI, 55, .inl f1)), (as, .inl (cI, 55, .inl f2)), (ag, .inl (cI, 55, .inl f3))] sz) (ftQv D [(a0, .inr (1, [.ref ap, .ref ah, .int (nI r), .ref af, .ref as, .ref ag, .int (nI g)])), (af, .inl (cI, 55, .inl f1)), (as, .inl (cI, 55, .inl f2)), (ag, .inl (cI, 55, .inl f3))] [(a0, .inr (1, [.ref ap, .ref ah, .int (nI r), .ref af, .ref as, .ref ag, .int (nI (ftGhIns (g, f1, f2, f3) x y h).1)])), (af, .inl (cI, 55, .inl ((ftGhIns (g, f1, f2, f3) x y h).2.1))), (as, .inl (cI, 55, .inl ((ftGhIns (g, f1, f2, f3) x y h).2.2.1))), (ag, .inl (cI, 55, .inl ((ftGhIns (g, f1, f2, f3) x y h).2.2.2)))] sz) 0 0 (va_A [(a0, .inr (1, [.ref ap, .ref ah, .int (nI r), .ref af, .ref as, .ref ag, .int (nI g)])), (af, .inl (cI, 55, .inl f1)), (as, .inl (cI, 55, .inl f2)), (ag, .inl (cI, 55, .inl f3))] sz) := by
  refine Met.ofW (cc := cX1_addGhost) (maxL := 5) (ret := none) (by decide) rfl ?_
  intro p e s m args below meth c s₁ B hml hv
  obtain ⟨rfl, hsz, hP, hKK, hD0⟩ := hv
  have hK := hKK.1
  have hx := B.exec
  have hb := B.bytes
  have hr := B.returns
  have hts := atoms_spec (ws := wsX1_addGhost) B.pre
  have hown : s.vm.findClass RX1 = some m.cls := findClass_of_methodNamed B.named
  have hlocks := B.notSynchronized
  subst hsz
  have hD := hD0.self (sz := s.heap.size)
  generalize hAe : va_A [(a0, .inr (1, [.ref ap, .ref ah, .int (nI r), .ref af, .ref as, .ref ag, .int (nI g)])), (af, .inl (cI, 55, .inl f1)), (as, .inl (cI, 55, .inl f2)), (ag, .inl (cI, 55, .inl f3))] s.heap.size = A at hD ⊢
  have hA : ∀ q : Nat, s.heap.size ≤ q → A q := fun q h => by rw [← hAe]; exact Or.inr h
  have hS : va_S A s.heap s.heap [] := va_S.rf
  have hD : va_D A [(a0, .inr (1, [.ref ap, .ref ah, .int (nI r), .ref af, .ref as, .ref ag, .int (nI g)])), (af, .inl (cI, 55, .inl f1)), (as, .inl (cI, 55, .inl f2)), (ag, .inl (cI, 55, .inl f3))] := hD
  have hP : va_P D vwCl [(a0, .inr (1, [.ref ap, .ref ah, .int (nI r), .ref af, .ref as, .ref ag, .int (nI g)])), (af, .inl (cI, 55, .inl f1)), (as, .inl (cI, 55, .inl f2)), (ag, .inl (cI, 55, .inl f3))] s.heap := hP
  have hl := lv_entry ([.ref a0, .int x, .int y, .int h]) (n := 5) (Nat.le_of_ble_eq_true rfl)
  rw [lg_entry_eq]
  generalize (lg_sl ([.ref a0, .int x, .int y, .int h]) ++ List.replicate (5 - (lg_sl ([.ref a0, .int x, .int y, .int h])).length) Slot.unset).toArray = ls at hl ⊢
  have hl : lv_has ls 5 [(0, .ref a0), (1, .int x), (2, .int y), (3, .int h)] := hl
  refine lv_aload_n hx hb dX1_addGhost_0 rfl (lv_at hl 0 rfl) ?_
  refine va_get (D := D) (ci := 1) (v := .int (nI g)) (C := RX1) (T := TX1) (N := 7) hx hb hts (by decide +kernel) hown hK hP 0 rfl rfl 6 (by decide) (hts (.fieldLink RX1 31 "FiberTrace$Echoes" "ghosts" "I") (by decide +kernel)) (fun _ h9 => h9) rfl dX1_addGhost_1 ?_
  refine lv_istore (lv' := [(4, .int (nI g)), (0, .ref a0), (1, .int x), (2, .int y), (3, .int h)]) hx hb dX1_addGhost_4 hl (by decide) rfl (fun ls hl => ?_)
  have lp6 : ∀ (n6 : Nat) (k : Nat) (x6_4 : Int32), k < n6 → (k ≤ g) → (ftDown f1 f2 (2 * y - x) g = ftDown f1 f2 (2 * y - x) k) → x6_4 = nI k → ∀ (H : Heap) (locs : List Loc), va_P D vwCl [(a0, .inr (1, [.ref ap, .ref ah, .int (nI r), .ref af, .ref as, .ref ag, .int (nI g)])), (af, .inl (cI, 55, .inl f1)), (as, .inl (cI, 55, .inl f2)), (ag, .inl (cI, 55, .inl f3))] H → va_D A [(a0, .inr (1, [.ref ap, .ref ah, .int (nI r), .ref af, .ref as, .ref ag, .int (nI g)])), (af, .inl (cI, 55, .inl f1)), (as, .inl (cI, 55, .inl f2)), (ag, .inl (cI, 55, .inl f3))] → va_S A s.heap H locs → ∀ ls : Array Slot, lv_has ls 5 [(0, .ref a0), (1, .int x), (2, .int y), (3, .int h), (4, .int x6_4)] → W p l e (headSpec wsX1_addGhost { frames := 2, cells := 0, slots := 0, locals := 46 }).room s m ([.ref a0, .int x, .int y, .int h] : List Value).toArray below meth c H locs 0 0 (MQ below (ftQv D [(a0, .inr (1, [.ref ap, .ref ah, .int (nI r), .ref af, .ref as, .ref ag, .int (nI g)])), (af, .inl (cI, 55, .inl f1)), (as, .inl (cI, 55, .inl f2)), (ag, .inl (cI, 55, .inl f3))] [(a0, .inr (1, [.ref ap, .ref ah, .int (nI r), .ref af, .ref as, .ref ag, .int (nI (ftGhIns (g, f1, f2, f3) x y h).1)])), (af, .inl (cI, 55, .inl ((ftGhIns (g, f1, f2, f3) x y h).2.1))), (as, .inl (cI, 55, .inl ((ftGhIns (g, f1, f2, f3) x y h).2.2.1))), (ag, .inl (cI, 55, .inl ((ftGhIns (g, f1, f2, f3) x y h).2.2.2)))] s.heap.size) ([.ref a0, .int x, .int y, .int h] : List Value).toArray s 0 0 A) (F0 m 6 ls []) := by
    intro n6
    induction n6 with
    | zero =>
      intro k x6_4  hm6
      exact absurd hm6 (Nat.not_lt_zero _)
    | succ n6 ih6 =>
      intro k x6_4  hm6 hkg hd ex6_4  H locs hP hD hS ls hl
      subst ex6_4
      refine lv_iload hx hb dX1_addGhost_6 (lv_at hl 4 rfl) ?_
      refine lv_if_le (tgt := 33) hx hb dX1_addGhost_8 (by decide) (fun c8 => ?_) (fun c8 => ?_)
      · have c8n : k ≤ 0 := ft_leN (by omega) (by omega) c8
        have hk0 : k = 0 := ft_le0 (by omega) c8
        have hix : ftDown f1 f2 (2 * y - x) g = k := by rw [hd, hk0]; rfl
        refine lv_aload_n hx hb dX1_addGhost_33 rfl (lv_at hl 0 rfl) ?_
        refine va_get (D := D) (ci := 1) (v := .ref af) (C := RX1) (T := TX1) (N := 7) hx hb hts (by decide +kernel) hown hK hP 0 rfl rfl 3 (by decide) (hts (.fieldLink RX1 18 "FiberTrace$Echoes" "firsts" "[I") (by decide +kernel)) (fun _ h9 => h9) rfl dX1_addGhost_34 ?_
        refine lv_aload_n hx hb dX1_addGhost_37 rfl (lv_at hl 0 rfl) ?_
        refine va_get (D := D) (ci := 1) (v := .int (nI g)) (C := RX1) (T := TX1) (N := 7) hx hb hts (by decide +kernel) hown hK hP 0 rfl rfl 6 (by decide) (hts (.fieldLink RX1 31 "FiberTrace$Echoes" "ghosts" "I") (by decide +kernel)) (fun _ h9 => h9) rfl dX1_addGhost_38 ?_
        refine lv_iload hx hb dX1_addGhost_41 (lv_at hl 4 rfl) ?_
        refine lv_iload_n hx hb dX1_addGhost_43 rfl (lv_at hl 1 rfl) ?_
        refine ft_cv (wc := [(af, .inl (cI, 55, .inl f1))]) (wr := [(a0, .inr (1, [.ref ap, .ref ah, .int (nI r), .ref af, .ref as, .ref ag, .int (nI g)])), (as, .inl (cI, 55, .inl f2)), (ag, .inl (cI, 55, .inl f3))]) (w1 := [(af, .inl (cI, 55, .inl (ftIns f1 g k x)))]) (ws1 := [(a0, .inr (1, [.ref ap, .ref ah, .int (nI r), .ref af, .ref as, .ref ag, .int (nI g)])), (af, .inl (cI, 55, .inl (ftIns f1 g k x))), (as, .inl (cI, 55, .inl f2)), (ag, .inl (cI, 55, .inl f3))]) (va_runSN (As := [.ref af, .int (nI g), .int (nI k), .int x]) (rest := []) ⟨hx, hb, hml, hown, hts⟩ (c_X10_insertInto l D cI cS H.size af 55 f1 g k x (by first | assumption | omega) (by first | assumption | omega) (by first | assumption | omega)) ⟨va_cnB 4 hts gX1_addGhost_X10_insertInto_n75 rfl rfl rfl (hKK.2 _ (List.mem_of_getElem? (i := 15) rfl)) (hts (.initialized RX10) (by decide +kernel)) (by decide +kernel) ⟨Nat.le_of_ble_eq_true rfl, Nat.le_of_ble_eq_true rfl⟩, hts (.static yX10_insertInto) (by decide +kernel), trivial⟩ (ft_preRW hP hD hKK [1] rfl rfl rfl) rfl rfl hl.1 rfl (lv_room (Nat.le_of_ble_eq_true rfl)) dX1_addGhost_44 ⟨Nat.le_of_ble_eq_true rfl, Nat.le_of_ble_eq_true rfl⟩) hP hD hS hA [1] [0, 2, 3] [0, 3, 1, 2] rfl rfl (by decide) (by decide) (by decide) rfl rfl (fun H locs hP hD hS => ?_)
        have hP : va_P D vwCl [(a0, .inr (1, [.ref ap, .ref ah, .int (nI r), .ref af, .ref as, .ref ag, .int (nI g)])), (af, .inl (cI, 55, .inl (ftIns f1 g k x))), (as, .inl (cI, 55, .inl f2)), (ag, .inl (cI, 55, .inl f3))] H := hP
        have hD : va_D A [(a0, .inr (1, [.ref ap, .ref ah, .int (nI r), .ref af, .ref as, .ref ag, .int (nI g)])), (af, .inl (cI, 55, .inl (ftIns f1 g k x))), (as, .inl (cI, 55, .inl f2)), (ag, .inl (cI, 55, .inl f3))] := hD
        refine lv_aload_n hx hb dX1_addGhost_47 rfl (lv_at hl 0 rfl) ?_
        refine va_get (D := D) (ci := 1) (v := .ref as) (C := RX1) (T := TX1) (N := 7) hx hb hts (by decide +kernel) hown hK hP 0 rfl rfl 4 (by decide) (hts (.fieldLink RX1 21 "FiberTrace$Echoes" "seconds" "[I") (by decide +kernel)) (fun _ h9 => h9) rfl dX1_addGhost_48 ?_
        refine lv_aload_n hx hb dX1_addGhost_51 rfl (lv_at hl 0 rfl) ?_
        refine va_get (D := D) (ci := 1) (v := .int (nI g)) (C := RX1) (T := TX1) (N := 7) hx hb hts (by decide +kernel) hown hK hP 0 rfl rfl 6 (by decide) (hts (.fieldLink RX1 31 "FiberTrace$Echoes" "ghosts" "I") (by decide +kernel)) (fun _ h9 => h9) rfl dX1_addGhost_52 ?_
        refine lv_iload hx hb dX1_addGhost_55 (lv_at hl 4 rfl) ?_
        refine lv_iload_n hx hb dX1_addGhost_57 rfl (lv_at hl 2 rfl) ?_
        refine ft_cv (wc := [(as, .inl (cI, 55, .inl f2))]) (wr := [(a0, .inr (1, [.ref ap, .ref ah, .int (nI r), .ref af, .ref as, .ref ag, .int (nI g)])), (af, .inl (cI, 55, .inl (ftIns f1 g k x))), (ag, .inl (cI, 55, .inl f3))]) (w1 := [(as, .inl (cI, 55, .inl (ftIns f2 g k y)))]) (ws1 := [(a0, .inr (1, [.ref ap, .ref ah, .int (nI r), .ref af, .ref as, .ref ag, .int (nI g)])), (af, .inl (cI, 55, .inl (ftIns f1 g k x))), (as, .inl (cI, 55, .inl (ftIns f2 g k y))), (ag, .inl (cI, 55, .inl f3))]) (va_runSN (As := [.ref as, .int (nI g), .int (nI k), .int y]) (rest := []) ⟨hx, hb, hml, hown, hts⟩ (c_X10_insertInto l D cI cS H.size as 55 f2 g k y (by first | assumption | omega) (by first | assumption | omega) (by first | assumption | omega)) ⟨va_cnB 4 hts gX1_addGhost_X10_insertInto_n75 rfl rfl rfl (hKK.2 _ (List.mem_of_getElem? (i := 15) rfl)) (hts (.initialized RX10) (by decide +kernel)) (by decide +kernel) ⟨Nat.le_of_ble_eq_true rfl, Nat.le_of_ble_eq_true rfl⟩, hts (.static yX10_insertInto) (by decide +kernel), trivial⟩ (ft_preRW hP hD hKK [2] rfl rfl rfl) rfl rfl hl.1 rfl (lv_room (Nat.le_of_ble_eq_true rfl)) dX1_addGhost_58 ⟨Nat.le_of_ble_eq_true rfl, Nat.le_of_ble_eq_true rfl⟩) hP hD hS hA [2] [0, 1, 3] [0, 1, 3, 2] rfl rfl (by decide) (by decide) (by decide) rfl rfl (fun H locs hP hD hS => ?_)
        have hP : va_P D vwCl [(a0, .inr (1, [.ref ap, .ref ah, .int (nI r), .ref af, .ref as, .ref ag, .int (nI g)])), (af, .inl (cI, 55, .inl (ftIns f1 g k x))), (as, .inl (cI, 55, .inl (ftIns f2 g k y))), (ag, .inl (cI, 55, .inl f3))] H := hP
        have hD : va_D A [(a0, .inr (1, [.ref ap, .ref ah, .int (nI r), .ref af, .ref as, .ref ag, .int (nI g)])), (af, .inl (cI, 55, .inl (ftIns f1 g k x))), (as, .inl (cI, 55, .inl (ftIns f2 g k y))), (ag, .inl (cI, 55, .inl f3))] := hD
        refine lv_aload_n hx hb dX1_addGhost_61 rfl (lv_at hl 0 rfl) ?_
        refine va_get (D := D) (ci := 1) (v := .ref ag) (C := RX1) (T := TX1) (N := 7) hx hb hts (by decide +kernel) hown hK hP 0 rfl rfl 5 (by decide) (hts (.fieldLink RX1 24 "FiberTrace$Echoes" "ghostHeights" "[I") (by decide +kernel)) (fun _ h9 => h9) rfl dX1_addGhost_62 ?_
        refine lv_aload_n hx hb dX1_addGhost_65 rfl (lv_at hl 0 rfl) ?_
        refine va_get (D := D) (ci := 1) (v := .int (nI g)) (C := RX1) (T := TX1) (N := 7) hx hb hts (by decide +kernel) hown hK hP 0 rfl rfl 6 (by decide) (hts (.fieldLink RX1 31 "FiberTrace$Echoes" "ghosts" "I") (by decide +kernel)) (fun _ h9 => h9) rfl dX1_addGhost_66 ?_
        refine lv_iload hx hb dX1_addGhost_69 (lv_at hl 4 rfl) ?_
        refine lv_iload_n hx hb dX1_addGhost_71 rfl (lv_at hl 3 rfl) ?_
        refine ft_cv (wc := [(ag, .inl (cI, 55, .inl f3))]) (wr := [(a0, .inr (1, [.ref ap, .ref ah, .int (nI r), .ref af, .ref as, .ref ag, .int (nI g)])), (af, .inl (cI, 55, .inl (ftIns f1 g k x))), (as, .inl (cI, 55, .inl (ftIns f2 g k y)))]) (w1 := [(ag, .inl (cI, 55, .inl (ftIns f3 g k h)))]) (ws1 := [(a0, .inr (1, [.ref ap, .ref ah, .int (nI r), .ref af, .ref as, .ref ag, .int (nI g)])), (af, .inl (cI, 55, .inl (ftIns f1 g k x))), (as, .inl (cI, 55, .inl (ftIns f2 g k y))), (ag, .inl (cI, 55, .inl (ftIns f3 g k h)))]) (va_runSN (As := [.ref ag, .int (nI g), .int (nI k), .int h]) (rest := []) ⟨hx, hb, hml, hown, hts⟩ (c_X10_insertInto l D cI cS H.size ag 55 f3 g k h (by first | assumption | omega) (by first | assumption | omega) (by first | assumption | omega)) ⟨va_cnB 4 hts gX1_addGhost_X10_insertInto_n75 rfl rfl rfl (hKK.2 _ (List.mem_of_getElem? (i := 15) rfl)) (hts (.initialized RX10) (by decide +kernel)) (by decide +kernel) ⟨Nat.le_of_ble_eq_true rfl, Nat.le_of_ble_eq_true rfl⟩, hts (.static yX10_insertInto) (by decide +kernel), trivial⟩ (ft_preRW hP hD hKK [3] rfl rfl rfl) rfl rfl hl.1 rfl (lv_room (Nat.le_of_ble_eq_true rfl)) dX1_addGhost_72 ⟨Nat.le_of_ble_eq_true rfl, Nat.le_of_ble_eq_true rfl⟩) hP hD hS hA [3] [0, 1, 2] [0, 1, 2, 3] rfl rfl (by decide) (by decide) (by decide) rfl rfl (fun H locs hP hD hS => ?_)
        have hP : va_P D vwCl [(a0, .inr (1, [.ref ap, .ref ah, .int (nI r), .ref af, .ref as, .ref ag, .int (nI g)])), (af, .inl (cI, 55, .inl (ftIns f1 g k x))), (as, .inl (cI, 55, .inl (ftIns f2 g k y))), (ag, .inl (cI, 55, .inl (ftIns f3 g k h)))] H := hP
        have hD : va_D A [(a0, .inr (1, [.ref ap, .ref ah, .int (nI r), .ref af, .ref as, .ref ag, .int (nI g)])), (af, .inl (cI, 55, .inl (ftIns f1 g k x))), (as, .inl (cI, 55, .inl (ftIns f2 g k y))), (ag, .inl (cI, 55, .inl (ftIns f3 g k h)))] := hD
        refine lv_aload_n hx hb dX1_addGhost_75 rfl (lv_at hl 0 rfl) ?_
        refine lv_dup hx hb dX1_addGhost_76 rfl ?_
        refine va_get (D := D) (ci := 1) (v := .int (nI g)) (C := RX1) (T := TX1) (N := 7) hx hb hts (by decide +kernel) hown hK hP 0 rfl rfl 6 (by decide) (hts (.fieldLink RX1 31 "FiberTrace$Echoes" "ghosts" "I") (by decide +kernel)) (fun _ h9 => h9) rfl dX1_addGhost_77 ?_
        refine lv_iconst (v := 1) hx hb dX1_addGhost_80 (by decide) ?_
        refine lv_iadd hx hb dX1_addGhost_81 ?_
        refine ft_top (y := nI (g + 1)) (ft_addN g 1) ?_
        refine va_put (D := D) (ci := 1) (v := .int (nI (g + 1))) (ty := .int) (C := RX1) (T := TX1) (N := 7) hx hb hts (by decide +kernel) tyX1 tyX1_ok nmX1 hown hK hP hD hS 0 rfl rfl 6 (by decide) (hts (.fieldLink RX1 31 "FiberTrace$Echoes" "ghosts" "I") (by decide +kernel)) (fun _ h9 => h9) rfl (by decide +kernel) rfl rfl (Nat.le_of_ble_eq_true rfl) dX1_addGhost_82 (fun H locs hP hD hS => ?_)
        have hP : va_P D vwCl [(a0, .inr (1, [.ref ap, .ref ah, .int (nI r), .ref af, .ref as, .ref ag, .int (nI (g + 1))])), (af, .inl (cI, 55, .inl (ftIns f1 g k x))), (as, .inl (cI, 55, .inl (ftIns f2 g k y))), (ag, .inl (cI, 55, .inl (ftIns f3 g k h)))] H := hP
        have hD : va_D A [(a0, .inr (1, [.ref ap, .ref ah, .int (nI r), .ref af, .ref as, .ref ag, .int (nI (g + 1))])), (af, .inl (cI, 55, .inl (ftIns f1 g k x))), (as, .inl (cI, 55, .inl (ftIns f2 g k y))), (ag, .inl (cI, 55, .inl (ftIns f3 g k h)))] := hD
        have hw9 : ([(a0, .inr (1, [.ref ap, .ref ah, .int (nI r), .ref af, .ref as, .ref ag, .int (nI (g + 1))])), (af, .inl (cI, 55, .inl (ftIns f1 g k x))), (as, .inl (cI, 55, .inl (ftIns f2 g k y))), (ag, .inl (cI, 55, .inl (ftIns f3 g k h)))] : va_W) = [(a0, .inr (1, [.ref ap, .ref ah, .int (nI r), .ref af, .ref as, .ref ag, .int (nI (ftGhIns (g, f1, f2, f3) x y h).1)])), (af, .inl (cI, 55, .inl ((ftGhIns (g, f1, f2, f3) x y h).2.1))), (as, .inl (cI, 55, .inl ((ftGhIns (g, f1, f2, f3) x y h).2.2.1))), (ag, .inl (cI, 55, .inl ((ftGhIns (g, f1, f2, f3) x y h).2.2.2)))] := by rw [ftGhIns, hix]
        rw [hw9] at hP hD
        exact W.vret hx hb hr (fun t ht hW => ⟨⟨(), rfl, trivial, by rw [ht]; exact hP, by rw [hAe]; exact hD⟩, by rw [hAe]; exact hS.F ht⟩) hS.2.2 dX1_addGhost_85
      · have c8n : 0 < k := ft_nleN (by omega) (by omega) c8
        have hk1 : 0 < k := ft_gt0 c8
        refine lv_aload_n hx hb dX1_addGhost_11 rfl (lv_at hl 0 rfl) ?_
        refine lv_iload hx hb dX1_addGhost_12 (lv_at hl 4 rfl) ?_
        refine lv_iconst (v := 1) hx hb dX1_addGhost_14 (by decide) ?_
        refine lv_isub hx hb dX1_addGhost_15 ?_
        refine ft_top (y := nI (k - 1)) (ft_subN (a := k) (b := 1) (by omega)) ?_
        refine ft_csi (r := ftGhPl f1 f2 (k - 1)) (va_runV (C := RX1) (As := [.int (nI (k - 1))]) (rest := []) ⟨hx, hb, hml, hown, hts⟩ (c_X1_ghostPlace l D cI cS a0 ap ah af as ag r g f1 f2 (k - 1) (by first | assumption | omega)) (cwV 1 hts gX1_addGhost_X1_ghostPlace rfl rfl rfl (by decide +kernel) ⟨Nat.le_of_ble_eq_true rfl, Nat.le_of_ble_eq_true rfl⟩) (ft_preROV (ci := 1) (q0 := 0) hP hKK [0, 1, 2] rfl rfl rfl) rfl rfl hl.1 rfl (lv_room (Nat.le_of_ble_eq_true rfl)) dX1_addGhost_16 ⟨Nat.le_of_ble_eq_true rfl, Nat.le_of_ble_eq_true rfl⟩) ?_
        refine lv_iconst (v := 2) hx hb dX1_addGhost_19 (by decide) ?_
        refine lv_iload_n hx hb dX1_addGhost_20 rfl (lv_at hl 2 rfl) ?_
        refine lv_imul hx hb dX1_addGhost_21 ?_
        refine lv_iload_n hx hb dX1_addGhost_22 rfl (lv_at hl 1 rfl) ?_
        refine lv_isub hx hb dX1_addGhost_23 ?_
        refine lv_icmp_le (tgt := 33) hx hb dX1_addGhost_24 (by decide) (fun c24 => ?_) (fun c24 => ?_)
        · have hix : ftDown f1 f2 (2 * y - x) g = k := by rw [hd]; exact ftDown_ge hk1 (Int32.not_lt.mpr c24)
          refine lv_aload_n hx hb dX1_addGhost_33 rfl (lv_at hl 0 rfl) ?_
          refine va_get (D := D) (ci := 1) (v := .ref af) (C := RX1) (T := TX1) (N := 7) hx hb hts (by decide +kernel) hown hK hP 0 rfl rfl 3 (by decide) (hts (.fieldLink RX1 18 "FiberTrace$Echoes" "firsts" "[I") (by decide +kernel)) (fun _ h9 => h9) rfl dX1_addGhost_34 ?_
          refine lv_aload_n hx hb dX1_addGhost_37 rfl (lv_at hl 0 rfl) ?_
          refine va_get (D := D) (ci := 1) (v := .int (nI g)) (C := RX1) (T := TX1) (N := 7) hx hb hts (by decide +kernel) hown hK hP 0 rfl rfl 6 (by decide) (hts (.fieldLink RX1 31 "FiberTrace$Echoes" "ghosts" "I") (by decide +kernel)) (fun _ h9 => h9) rfl dX1_addGhost_38 ?_
          refine lv_iload hx hb dX1_addGhost_41 (lv_at hl 4 rfl) ?_
          refine lv_iload_n hx hb dX1_addGhost_43 rfl (lv_at hl 1 rfl) ?_
          refine ft_cv (wc := [(af, .inl (cI, 55, .inl f1))]) (wr := [(a0, .inr (1, [.ref ap, .ref ah, .int (nI r), .ref af, .ref as, .ref ag, .int (nI g)])), (as, .inl (cI, 55, .inl f2)), (ag, .inl (cI, 55, .inl f3))]) (w1 := [(af, .inl (cI, 55, .inl (ftIns f1 g k x)))]) (ws1 := [(a0, .inr (1, [.ref ap, .ref ah, .int (nI r), .ref af, .ref as, .ref ag, .int (nI g)])), (af, .inl (cI, 55, .inl (ftIns f1 g k x))), (as, .inl (cI, 55, .inl f2)), (ag, .inl (cI, 55, .inl f3))]) (va_runSN (As := [.ref af, .int (nI g), .int (nI k), .int x]) (rest := []) ⟨hx, hb, hml, hown, hts⟩ (c_X10_insertInto l D cI cS H.size af 55 f1 g k x (by first | assumption | omega) (by first | assumption | omega) (by first | assumption | omega)) ⟨va_cnB 4 hts gX1_addGhost_X10_insertInto_n75 rfl rfl rfl (hKK.2 _ (List.mem_of_getElem? (i := 15) rfl)) (hts (.initialized RX10) (by decide +kernel)) (by decide +kernel) ⟨Nat.le_of_ble_eq_true rfl, Nat.le_of_ble_eq_true rfl⟩, hts (.static yX10_insertInto) (by decide +kernel), trivial⟩ (ft_preRW hP hD hKK [1] rfl rfl rfl) rfl rfl hl.1 rfl (lv_room (Nat.le_of_ble_eq_true rfl)) dX1_addGhost_44 ⟨Nat.le_of_ble_eq_true rfl, Nat.le_of_ble_eq_true rfl⟩) hP hD hS hA [1] [0, 2, 3] [0, 3, 1, 2] rfl rfl (by decide) (by decide) (by decide) rfl rfl (fun H locs hP hD hS => ?_)
          have hP : va_P D vwCl [(a0, .inr (1, [.ref ap, .ref ah, .int (nI r), .ref af, .ref as, .ref ag, .int (nI g)])), (af, .inl (cI, 55, .inl (ftIns f1 g k x))), (as, .inl (cI, 55, .inl f2)), (ag, .inl (cI, 55, .inl f3))] H := hP
          have hD : va_D A [(a0, .inr (1, [.ref ap, .ref ah, .int (nI r), .ref af, .ref as, .ref ag, .int (nI g)])), (af, .inl (cI, 55, .inl (ftIns f1 g k x))), (as, .inl (cI, 55, .inl f2)), (ag, .inl (cI, 55, .inl f3))] := hD
          refine lv_aload_n hx hb dX1_addGhost_47 rfl (lv_at hl 0 rfl) ?_
          refine va_get (D := D) (ci := 1) (v := .ref as) (C := RX1) (T := TX1) (N := 7) hx hb hts (by decide +kernel) hown hK hP 0 rfl rfl 4 (by decide) (hts (.fieldLink RX1 21 "FiberTrace$Echoes" "seconds" "[I") (by decide +kernel)) (fun _ h9 => h9) rfl dX1_addGhost_48 ?_
          refine lv_aload_n hx hb dX1_addGhost_51 rfl (lv_at hl 0 rfl) ?_
          refine va_get (D := D) (ci := 1) (v := .int (nI g)) (C := RX1) (T := TX1) (N := 7) hx hb hts (by decide +kernel) hown hK hP 0 rfl rfl 6 (by decide) (hts (.fieldLink RX1 31 "FiberTrace$Echoes" "ghosts" "I") (by decide +kernel)) (fun _ h9 => h9) rfl dX1_addGhost_52 ?_
          refine lv_iload hx hb dX1_addGhost_55 (lv_at hl 4 rfl) ?_
          refine lv_iload_n hx hb dX1_addGhost_57 rfl (lv_at hl 2 rfl) ?_
          refine ft_cv (wc := [(as, .inl (cI, 55, .inl f2))]) (wr := [(a0, .inr (1, [.ref ap, .ref ah, .int (nI r), .ref af, .ref as, .ref ag, .int (nI g)])), (af, .inl (cI, 55, .inl (ftIns f1 g k x))), (ag, .inl (cI, 55, .inl f3))]) (w1 := [(as, .inl (cI, 55, .inl (ftIns f2 g k y)))]) (ws1 := [(a0, .inr (1, [.ref ap, .ref ah, .int (nI r), .ref af, .ref as, .ref ag, .int (nI g)])), (af, .inl (cI, 55, .inl (ftIns f1 g k x))), (as, .inl (cI, 55, .inl (ftIns f2 g k y))), (ag, .inl (cI, 55, .inl f3))]) (va_runSN (As := [.ref as, .int (nI g), .int (nI k), .int y]) (rest := []) ⟨hx, hb, hml, hown, hts⟩ (c_X10_insertInto l D cI cS H.size as 55 f2 g k y (by first | assumption | omega) (by first | assumption | omega) (by first | assumption | omega)) ⟨va_cnB 4 hts gX1_addGhost_X10_insertInto_n75 rfl rfl rfl (hKK.2 _ (List.mem_of_getElem? (i := 15) rfl)) (hts (.initialized RX10) (by decide +kernel)) (by decide +kernel) ⟨Nat.le_of_ble_eq_true rfl, Nat.le_of_ble_eq_true rfl⟩, hts (.static yX10_insertInto) (by decide +kernel), trivial⟩ (ft_preRW hP hD hKK [2] rfl rfl rfl) rfl rfl hl.1 rfl (lv_room (Nat.le_of_ble_eq_true rfl)) dX1_addGhost_58 ⟨Nat.le_of_ble_eq_true rfl, Nat.le_of_ble_eq_true rfl⟩) hP hD hS hA [2] [0, 1, 3] [0, 1, 3, 2] rfl rfl (by decide) (by decide) (by decide) rfl rfl (fun H locs hP hD hS => ?_)
          have hP : va_P D vwCl [(a0, .inr (1, [.ref ap, .ref ah, .int (nI r), .ref af, .ref as, .ref ag, .int (nI g)])), (af, .inl (cI, 55, .inl (ftIns f1 g k x))), (as, .inl (cI, 55, .inl (ftIns f2 g k y))), (ag, .inl (cI, 55, .inl f3))] H := hP
          have hD : va_D A [(a0, .inr (1, [.ref ap, .ref ah, .int (nI r), .ref af, .ref as, .ref ag, .int (nI g)])), (af, .inl (cI, 55, .inl (ftIns f1 g k x))), (as, .inl (cI, 55, .inl (ftIns f2 g k y))), (ag, .inl (cI, 55, .inl f3))] := hD
          refine lv_aload_n hx hb dX1_addGhost_61 rfl (lv_at hl 0 rfl) ?_
          refine va_get (D := D) (ci := 1) (v := .ref ag) (C := RX1) (T := TX1) (N := 7) hx hb hts (by decide +kernel) hown hK hP 0 rfl rfl 5 (by decide) (hts (.fieldLink RX1 24 "FiberTrace$Echoes" "ghostHeights" "[I") (by decide +kernel)) (fun _ h9 => h9) rfl dX1_addGhost_62 ?_
          refine lv_aload_n hx hb dX1_addGhost_65 rfl (lv_at hl 0 rfl) ?_
          refine va_get (D := D) (ci := 1) (v := .int (nI g)) (C := RX1) (T := TX1) (N := 7) hx hb hts (by decide +kernel) hown hK hP 0 rfl rfl 6 (by decide) (hts (.fieldLink RX1 31 "FiberTrace$Echoes" "ghosts" "I") (by decide +kernel)) (fun _ h9 => h9) rfl dX1_addGhost_66 ?_
          refine lv_iload hx hb dX1_addGhost_69 (lv_at hl 4 rfl) ?_
          refine lv_iload_n hx hb dX1_addGhost_71 rfl (lv_at hl 3 rfl) ?_
          refine ft_cv (wc := [(ag, .inl (cI, 55, .inl f3))]) (wr := [(a0, .inr (1, [.ref ap, .ref ah, .int (nI r), .ref af, .ref as, .ref ag, .int (nI g)])), (af, .inl (cI, 55, .inl (ftIns f1 g k x))), (as, .inl (cI, 55, .inl (ftIns f2 g k y)))]) (w1 := [(ag, .inl (cI, 55, .inl (ftIns f3 g k h)))]) (ws1 := [(a0, .inr (1, [.ref ap, .ref ah, .int (nI r), .ref af, .ref as, .ref ag, .int (nI g)])), (af, .inl (cI, 55, .inl (ftIns f1 g k x))), (as, .inl (cI, 55, .inl (ftIns f2 g k y))), (ag, .inl (cI, 55, .inl (ftIns f3 g k h)))]) (va_runSN (As := [.ref ag, .int (nI g), .int (nI k), .int h]) (rest := []) ⟨hx, hb, hml, hown, hts⟩ (c_X10_insertInto l D cI cS H.size ag 55 f3 g k h (by first | assumption | omega) (by first | assumption | omega) (by first | assumption | omega)) ⟨va_cnB 4 hts gX1_addGhost_X10_insertInto_n75 rfl rfl rfl (hKK.2 _ (List.mem_of_getElem? (i := 15) rfl)) (hts (.initialized RX10) (by decide +kernel)) (by decide +kernel) ⟨Nat.le_of_ble_eq_true rfl, Nat.le_of_ble_eq_true rfl⟩, hts (.static yX10_insertInto) (by decide +kernel), trivial⟩ (ft_preRW hP hD hKK [3] rfl rfl rfl) rfl rfl hl.1 rfl (lv_room (Nat.le_of_ble_eq_true rfl)) dX1_addGhost_72 ⟨Nat.le_of_ble_eq_true rfl, Nat.le_of_ble_eq_true rfl⟩) hP hD hS hA [3] [0, 1, 2] [0, 1, 2, 3] rfl rfl (by decide) (by decide) (by decide) rfl rfl (fun H locs hP hD hS => ?_)
          have hP : va_P D vwCl [(a0, .inr (1, [.ref ap, .ref ah, .int (nI r), .ref af, .ref as, .ref ag, .int (nI g)])), (af, .inl (cI, 55, .inl (ftIns f1 g k x))), (as, .inl (cI, 55, .inl (ftIns f2 g k y))), (ag, .inl (cI, 55, .inl (ftIns f3 g k h)))] H := hP
          have hD : va_D A [(a0, .inr (1, [.ref ap, .ref ah, .int (nI r), .ref af, .ref as, .ref ag, .int (nI g)])), (af, .inl (cI, 55, .inl (ftIns f1 g k x))), (as, .inl (cI, 55, .inl (ftIns f2 g k y))), (ag, .inl (cI, 55, .inl (ftIns f3 g k h)))] := hD
          refine lv_aload_n hx hb dX1_addGhost_75 rfl (lv_at hl 0 rfl) ?_
          refine lv_dup hx hb dX1_addGhost_76 rfl ?_
          refine va_get (D := D) (ci := 1) (v := .int (nI g)) (C := RX1) (T := TX1) (N := 7) hx hb hts (by decide +kernel) hown hK hP 0 rfl rfl 6 (by decide) (hts (.fieldLink RX1 31 "FiberTrace$Echoes" "ghosts" "I") (by decide +kernel)) (fun _ h9 => h9) rfl dX1_addGhost_77 ?_
          refine lv_iconst (v := 1) hx hb dX1_addGhost_80 (by decide) ?_
          refine lv_iadd hx hb dX1_addGhost_81 ?_
          refine ft_top (y := nI (g + 1)) (ft_addN g 1) ?_
          refine va_put (D := D) (ci := 1) (v := .int (nI (g + 1))) (ty := .int) (C := RX1) (T := TX1) (N := 7) hx hb hts (by decide +kernel) tyX1 tyX1_ok nmX1 hown hK hP hD hS 0 rfl rfl 6 (by decide) (hts (.fieldLink RX1 31 "FiberTrace$Echoes" "ghosts" "I") (by decide +kernel)) (fun _ h9 => h9) rfl (by decide +kernel) rfl rfl (Nat.le_of_ble_eq_true rfl) dX1_addGhost_82 (fun H locs hP hD hS => ?_)
          have hP : va_P D vwCl [(a0, .inr (1, [.ref ap, .ref ah, .int (nI r), .ref af, .ref as, .ref ag, .int (nI (g + 1))])), (af, .inl (cI, 55, .inl (ftIns f1 g k x))), (as, .inl (cI, 55, .inl (ftIns f2 g k y))), (ag, .inl (cI, 55, .inl (ftIns f3 g k h)))] H := hP
          have hD : va_D A [(a0, .inr (1, [.ref ap, .ref ah, .int (nI r), .ref af, .ref as, .ref ag, .int (nI (g + 1))])), (af, .inl (cI, 55, .inl (ftIns f1 g k x))), (as, .inl (cI, 55, .inl (ftIns f2 g k y))), (ag, .inl (cI, 55, .inl (ftIns f3 g k h)))] := hD
          have hw9 : ([(a0, .inr (1, [.ref ap, .ref ah, .int (nI r), .ref af, .ref as, .ref ag, .int (nI (g + 1))])), (af, .inl (cI, 55, .inl (ftIns f1 g k x))), (as, .inl (cI, 55, .inl (ftIns f2 g k y))), (ag, .inl (cI, 55, .inl (ftIns f3 g k h)))] : va_W) = [(a0, .inr (1, [.ref ap, .ref ah, .int (nI r), .ref af, .ref as, .ref ag, .int (nI (ftGhIns (g, f1, f2, f3) x y h).1)])), (af, .inl (cI, 55, .inl ((ftGhIns (g, f1, f2, f3) x y h).2.1))), (as, .inl (cI, 55, .inl ((ftGhIns (g, f1, f2, f3) x y h).2.2.1))), (ag, .inl (cI, 55, .inl ((ftGhIns (g, f1, f2, f3) x y h).2.2.2)))] := by rw [ftGhIns, hix]
          rw [hw9] at hP hD
          exact W.vret hx hb hr (fun t ht hW => ⟨⟨(), rfl, trivial, by rw [ht]; exact hP, by rw [hAe]; exact hD⟩, by rw [hAe]; exact hS.F ht⟩) hS.2.2 dX1_addGhost_85
        · refine lv_iinc (v := nI (k - 1)) (lv' := [(4, .int (nI (k - 1))), (0, .ref a0), (1, .int x), (2, .int y), (3, .int h)]) hx hb dX1_addGhost_27 hl (k := 4) rfl (ft_dec (by omega)) (by decide) rfl (fun ls hl => ?_)
          refine lv_goto (tgt := 6) hx hb dX1_addGhost_30 (by decide) ?_
          exact ih6 (k - 1) (nI (k - 1))  (by omega) (by omega) (by rw [hd]; exact ftDown_gt hk1 (Int32.not_le.mp c24)) (by first | rfl | assumption)  _ _ hP hD hS ls (lv_sub hl [1, 2, 3, 4, 0] rfl)
  exact lp6 _ g (nI g)  (Nat.lt_succ_self _) (by omega) (by rfl) (by rfl) _ _ hP hD hS ls (lv_sub hl [1, 2, 3, 4, 0] rfl)
set_option maxHeartbeats 4000000 in
set_option maxRecDepth 100000 in
theorem c_X1_find (l : Launch) (D : va_G) (cI cS : ClassId) (sz : Nat) (a0 ap ah af as ag : Nat) (r g : Nat) (pe he f1 f2 f3 : Nat → Int32) (b0 : Nat) (len att en : Int32) (n bk bp bl br : Nat) (kf pf rf : Nat → Int32) (gl : Int32) (hn : n ≤ 10) : Met l yX1_find wsX1_find ({ frames := 3, cells := 0, slots := 0, locals := 70 }) (ftRW D cI cS [.ref a0, .ref b0, .int gl] [(a0, .inr (1, [.ref ap, .ref ah, .int (nI r), .ref af, .ref as, .ref ag, .int (nI g)])), (ap, .inl (cI, 11, .inl pe)), (ah, .inl (cI, 11, .inl he)), (af, .inl (cI, 55, .inl f1)), (as, .inl (cI, 55, .inl f2)), (ag, .inl (cI, 55, .inl f3)), (b0, .inr (4, [.int len, .int att, .int en, .int (nI n), .ref bk, .ref bp, .ref bl, .ref br])), (bk, .inl (cI, 10, .inl kf)), (bp, .inl (cI, 10, .inl pf)), (br, .inl (cI, 10, .inl rf))] sz) (ftQv D [(a0, .inr (1, [.ref ap, .ref ah, .int (nI r), .ref af, .ref as, .ref ag, .int (nI g)])), (ap, .inl (cI, 11, .inl pe)), (ah, .inl (cI, 11, .inl he)), (af, .inl (cI, 55, .inl f1)), (as, .inl (cI, 55, .inl f2)), (ag, .inl (cI, 55, .inl f3)), (b0, .inr (4, [.int len, .int att, .int en, .int (nI n), .ref bk, .ref bp, .ref bl, .ref br])), (bk, .inl (cI, 10, .inl kf)), (bp, .inl (cI, 10, .inl pf)), (br, .inl (cI, 10, .inl rf))] [(a0, .inr (1, [.ref ap, .ref ah, .int (nI (ftFlE len en kf pf rf pe he n).1), .ref af, .ref as, .ref ag, .int (nI (ftGhs (ftFlE len en kf pf rf pe he n) gl f1 f2 f3).1)])), (ap, .inl (cI, 11, .inl ((ftFlE len en kf pf rf pe he n).2.1))), (ah, .inl (cI, 11, .inl ((ftFlE len en kf pf rf pe he n).2.2))), (af, .inl (cI, 55, .inl ((ftGhs (ftFlE len en kf pf rf pe he n) gl f1 f2 f3).2.1))), (as, .inl (cI, 55, .inl ((ftGhs (ftFlE len en kf pf rf pe he n) gl f1 f2 f3).2.2.1))), (ag, .inl (cI, 55, .inl ((ftGhs (ftFlE len en kf pf rf pe he n) gl f1 f2 f3).2.2.2))), (b0, .inr (4, [.int len, .int att, .int en, .int (nI n), .ref bk, .ref bp, .ref bl, .ref br])), (bk, .inl (cI, 10, .inl kf)), (bp, .inl (cI, 10, .inl pf)), (br, .inl (cI, 10, .inl rf))] sz) 0 0 (va_A [(a0, .inr (1, [.ref ap, .ref ah, .int (nI r), .ref af, .ref as, .ref ag, .int (nI g)])), (ap, .inl (cI, 11, .inl pe)), (ah, .inl (cI, 11, .inl he)), (af, .inl (cI, 55, .inl f1)), (as, .inl (cI, 55, .inl f2)), (ag, .inl (cI, 55, .inl f3)), (b0, .inr (4, [.int len, .int att, .int en, .int (nI n), .ref bk, .ref bp, .ref bl, .ref br])), (bk, .inl (cI, 10, .inl kf)), (bp, .inl (cI, 10, .inl pf)), (br, .inl (cI, 10, .inl rf))] sz) := by
  refine Met.ofW (cc := cX1_find) (maxL := 6) (ret := none) (by decide) rfl ?_
  intro p e s m args below meth c s₁ B hml hv
  obtain ⟨rfl, hsz, hP, hKK, hD0⟩ := hv
  have hK := hKK.1
  have hx := B.exec
  have hb := B.bytes
  have hr := B.returns
  have hts := atoms_spec (ws := wsX1_find) B.pre
  have hown : s.vm.findClass RX1 = some m.cls := findClass_of_methodNamed B.named
  have hlocks := B.notSynchronized
  subst hsz
  have hD := hD0.self (sz := s.heap.size)
  generalize hAe : va_A [(a0, .inr (1, [.ref ap, .ref ah, .int (nI r), .ref af, .ref as, .ref ag, .int (nI g)])), (ap, .inl (cI, 11, .inl pe)), (ah, .inl (cI, 11, .inl he)), (af, .inl (cI, 55, .inl f1)), (as, .inl (cI, 55, .inl f2)), (ag, .inl (cI, 55, .inl f3)), (b0, .inr (4, [.int len, .int att, .int en, .int (nI n), .ref bk, .ref bp, .ref bl, .ref br])), (bk, .inl (cI, 10, .inl kf)), (bp, .inl (cI, 10, .inl pf)), (br, .inl (cI, 10, .inl rf))] s.heap.size = A at hD ⊢
  have hA : ∀ q : Nat, s.heap.size ≤ q → A q := fun q h => by rw [← hAe]; exact Or.inr h
  have hS : va_S A s.heap s.heap [] := va_S.rf
  have hD : va_D A [(a0, .inr (1, [.ref ap, .ref ah, .int (nI r), .ref af, .ref as, .ref ag, .int (nI g)])), (ap, .inl (cI, 11, .inl pe)), (ah, .inl (cI, 11, .inl he)), (af, .inl (cI, 55, .inl f1)), (as, .inl (cI, 55, .inl f2)), (ag, .inl (cI, 55, .inl f3)), (b0, .inr (4, [.int len, .int att, .int en, .int (nI n), .ref bk, .ref bp, .ref bl, .ref br])), (bk, .inl (cI, 10, .inl kf)), (bp, .inl (cI, 10, .inl pf)), (br, .inl (cI, 10, .inl rf))] := hD
  have hP : va_P D vwCl [(a0, .inr (1, [.ref ap, .ref ah, .int (nI r), .ref af, .ref as, .ref ag, .int (nI g)])), (ap, .inl (cI, 11, .inl pe)), (ah, .inl (cI, 11, .inl he)), (af, .inl (cI, 55, .inl f1)), (as, .inl (cI, 55, .inl f2)), (ag, .inl (cI, 55, .inl f3)), (b0, .inr (4, [.int len, .int att, .int en, .int (nI n), .ref bk, .ref bp, .ref bl, .ref br])), (bk, .inl (cI, 10, .inl kf)), (bp, .inl (cI, 10, .inl pf)), (br, .inl (cI, 10, .inl rf))] s.heap := hP
  have hl := lv_entry ([.ref a0, .ref b0, .int gl]) (n := 6) (Nat.le_of_ble_eq_true rfl)
  rw [lg_entry_eq]
  generalize (lg_sl ([.ref a0, .ref b0, .int gl]) ++ List.replicate (6 - (lg_sl ([.ref a0, .ref b0, .int gl])).length) Slot.unset).toArray = ls at hl ⊢
  have hl : lv_has ls 6 [(0, .ref a0), (1, .ref b0), (2, .int gl)] := hl
  refine lv_aload_n hx hb dX1_find_0 rfl (lv_at hl 0 rfl) ?_
  refine lv_aload_n hx hb dX1_find_1 rfl (lv_at hl 1 rfl) ?_
  refine ft_cv (wc := [(a0, .inr (1, [.ref ap, .ref ah, .int (nI r), .ref af, .ref as, .ref ag, .int (nI g)])), (ap, .inl (cI, 11, .inl pe)), (ah, .inl (cI, 11, .inl he)), (b0, .inr (4, [.int len, .int att, .int en, .int (nI n), .ref bk, .ref bp, .ref bl, .ref br])), (bk, .inl (cI, 10, .inl kf)), (bp, .inl (cI, 10, .inl pf)), (br, .inl (cI, 10, .inl rf))]) (wr := [(af, .inl (cI, 55, .inl f1)), (as, .inl (cI, 55, .inl f2)), (ag, .inl (cI, 55, .inl f3))]) (w1 := [(a0, .inr (1, [.ref ap, .ref ah, .int (nI (ftFlE len en kf pf rf pe he n).1), .ref af, .ref as, .ref ag, .int (nI g)])), (ap, .inl (cI, 11, .inl ((ftFlE len en kf pf rf pe he n).2.1))), (ah, .inl (cI, 11, .inl ((ftFlE len en kf pf rf pe he n).2.2))), (b0, .inr (4, [.int len, .int att, .int en, .int (nI n), .ref bk, .ref bp, .ref bl, .ref br])), (bk, .inl (cI, 10, .inl kf)), (bp, .inl (cI, 10, .inl pf)), (br, .inl (cI, 10, .inl rf))]) (ws1 := [(a0, .inr (1, [.ref ap, .ref ah, .int (nI (ftFlE len en kf pf rf pe he n).1), .ref af, .ref as, .ref ag, .int (nI g)])), (ap, .inl (cI, 11, .inl ((ftFlE len en kf pf rf pe he n).2.1))), (ah, .inl (cI, 11, .inl ((ftFlE len en kf pf rf pe he n).2.2))), (af, .inl (cI, 55, .inl f1)), (as, .inl (cI, 55, .inl f2)), (ag, .inl (cI, 55, .inl f3)), (b0, .inr (4, [.int len, .int att, .int en, .int (nI n), .ref bk, .ref bp, .ref bl, .ref br])), (bk, .inl (cI, 10, .inl kf)), (bp, .inl (cI, 10, .inl pf)), (br, .inl (cI, 10, .inl rf))]) (va_runV (C := RX1) (As := [.ref b0]) (rest := []) ⟨hx, hb, hml, hown, hts⟩ (c_X1_findReflections l D cI cS s.heap.size a0 ap ah af as ag r g pe he b0 len att en n bk bp bl br kf pf rf (by first | assumption | omega)) (cwV 1 hts gX1_find_X1_findReflections rfl rfl rfl (by decide +kernel) ⟨Nat.le_of_ble_eq_true rfl, Nat.le_of_ble_eq_true rfl⟩) (ft_preRWV (ci := 1) (q0 := 0) hP hD hKK [0, 1, 2, 6, 7, 8, 9] rfl rfl rfl rfl rfl) rfl rfl hl.1 rfl (lv_room (Nat.le_of_ble_eq_true rfl)) dX1_find_2 ⟨Nat.le_of_ble_eq_true rfl, Nat.le_of_ble_eq_true rfl⟩) hP hD hS hA [0, 1, 2, 6, 7, 8, 9] [3, 4, 5] [3, 4, 5, 0, 1, 2, 6, 7, 8, 9] rfl rfl (by decide) (by decide) (by decide) rfl rfl (fun H locs hP hD hS => ?_)
  have hP : va_P D vwCl [(a0, .inr (1, [.ref ap, .ref ah, .int (nI (ftFlE len en kf pf rf pe he n).1), .ref af, .ref as, .ref ag, .int (nI g)])), (ap, .inl (cI, 11, .inl ((ftFlE len en kf pf rf pe he n).2.1))), (ah, .inl (cI, 11, .inl ((ftFlE len en kf pf rf pe he n).2.2))), (af, .inl (cI, 55, .inl f1)), (as, .inl (cI, 55, .inl f2)), (ag, .inl (cI, 55, .inl f3)), (b0, .inr (4, [.int len, .int att, .int en, .int (nI n), .ref bk, .ref bp, .ref bl, .ref br])), (bk, .inl (cI, 10, .inl kf)), (bp, .inl (cI, 10, .inl pf)), (br, .inl (cI, 10, .inl rf))] H := hP
  have hD : va_D A [(a0, .inr (1, [.ref ap, .ref ah, .int (nI (ftFlE len en kf pf rf pe he n).1), .ref af, .ref as, .ref ag, .int (nI g)])), (ap, .inl (cI, 11, .inl ((ftFlE len en kf pf rf pe he n).2.1))), (ah, .inl (cI, 11, .inl ((ftFlE len en kf pf rf pe he n).2.2))), (af, .inl (cI, 55, .inl f1)), (as, .inl (cI, 55, .inl f2)), (ag, .inl (cI, 55, .inl f3)), (b0, .inr (4, [.int len, .int att, .int en, .int (nI n), .ref bk, .ref bp, .ref bl, .ref br])), (bk, .inl (cI, 10, .inl kf)), (bp, .inl (cI, 10, .inl pf)), (br, .inl (cI, 10, .inl rf))] := hD
  obtain ⟨R9, hR9⟩ : ∃ R9, R9 = ftFlE len en kf pf rf pe he n := ⟨_, rfl⟩
  have hR10 : R9.1 ≤ n + 1 := by rw [hR9]; exact ftFlE_le len en kf pf rf pe he n
  rw [← hR9] at hP hD
  refine lv_aload_n hx hb dX1_find_5 rfl (lv_at hl 0 rfl) ?_
  refine lv_iconst (v := 0) hx hb dX1_find_6 (by decide) ?_
  refine va_put (D := D) (ci := 1) (v := .int 0) (ty := .int) (C := RX1) (T := TX1) (N := 7) hx hb hts (by decide +kernel) tyX1 tyX1_ok nmX1 hown hK hP hD hS 0 rfl rfl 6 (by decide) (hts (.fieldLink RX1 31 "FiberTrace$Echoes" "ghosts" "I") (by decide +kernel)) (fun _ h9 => h9) rfl (by decide +kernel) rfl rfl (Nat.le_of_ble_eq_true rfl) dX1_find_7 (fun H locs hP hD hS => ?_)
  have hP : va_P D vwCl [(a0, .inr (1, [.ref ap, .ref ah, .int (nI (R9).1), .ref af, .ref as, .ref ag, .int 0])), (ap, .inl (cI, 11, .inl ((R9).2.1))), (ah, .inl (cI, 11, .inl ((R9).2.2))), (af, .inl (cI, 55, .inl f1)), (as, .inl (cI, 55, .inl f2)), (ag, .inl (cI, 55, .inl f3)), (b0, .inr (4, [.int len, .int att, .int en, .int (nI n), .ref bk, .ref bp, .ref bl, .ref br])), (bk, .inl (cI, 10, .inl kf)), (bp, .inl (cI, 10, .inl pf)), (br, .inl (cI, 10, .inl rf))] H := hP
  have hD : va_D A [(a0, .inr (1, [.ref ap, .ref ah, .int (nI (R9).1), .ref af, .ref as, .ref ag, .int 0])), (ap, .inl (cI, 11, .inl ((R9).2.1))), (ah, .inl (cI, 11, .inl ((R9).2.2))), (af, .inl (cI, 55, .inl f1)), (as, .inl (cI, 55, .inl f2)), (ag, .inl (cI, 55, .inl f3)), (b0, .inr (4, [.int len, .int att, .int en, .int (nI n), .ref bk, .ref bp, .ref bl, .ref br])), (bk, .inl (cI, 10, .inl kf)), (bp, .inl (cI, 10, .inl pf)), (br, .inl (cI, 10, .inl rf))] := hD
  refine lv_iconst (v := 0) hx hb dX1_find_10 (by decide) ?_
  refine lv_istore_n (lv' := [(3, .int 0), (0, .ref a0), (1, .ref b0), (2, .int gl)]) hx hb dX1_find_11 rfl hl (by decide) rfl (fun ls hl => ?_)
  have lp12 : ∀ (n12 : Nat) (i : Nat) (q : ftGs) (x12_3 : Int32) (g12_a0_6 : Int32) (g12_af : Nat → Int32) (g12_as : Nat → Int32) (g12_ag : Nat → Int32), R9.1 - i < n12 → (i ≤ R9.1) → (q = ftGhOut R9.2.1 R9.2.2 gl R9.1 (0, f1, f2, f3) i) → x12_3 = nI i → g12_a0_6 = nI q.1 → g12_af = q.2.1 → g12_as = q.2.2.1 → g12_ag = q.2.2.2 → ∀ (H : Heap) (locs : List Loc), va_P D vwCl [(a0, .inr (1, [.ref ap, .ref ah, .int (nI (R9).1), .ref af, .ref as, .ref ag, .int g12_a0_6])), (ap, .inl (cI, 11, .inl ((R9).2.1))), (ah, .inl (cI, 11, .inl ((R9).2.2))), (af, .inl (cI, 55, .inl g12_af)), (as, .inl (cI, 55, .inl g12_as)), (ag, .inl (cI, 55, .inl g12_ag)), (b0, .inr (4, [.int len, .int att, .int en, .int (nI n), .ref bk, .ref bp, .ref bl, .ref br])), (bk, .inl (cI, 10, .inl kf)), (bp, .inl (cI, 10, .inl pf)), (br, .inl (cI, 10, .inl rf))] H → va_D A [(a0, .inr (1, [.ref ap, .ref ah, .int (nI (R9).1), .ref af, .ref as, .ref ag, .int g12_a0_6])), (ap, .inl (cI, 11, .inl ((R9).2.1))), (ah, .inl (cI, 11, .inl ((R9).2.2))), (af, .inl (cI, 55, .inl g12_af)), (as, .inl (cI, 55, .inl g12_as)), (ag, .inl (cI, 55, .inl g12_ag)), (b0, .inr (4, [.int len, .int att, .int en, .int (nI n), .ref bk, .ref bp, .ref bl, .ref br])), (bk, .inl (cI, 10, .inl kf)), (bp, .inl (cI, 10, .inl pf)), (br, .inl (cI, 10, .inl rf))] → va_S A s.heap H locs → ∀ ls : Array Slot, lv_has ls 6 [(0, .ref a0), (1, .ref b0), (2, .int gl), (3, .int x12_3)] → W p l e (headSpec wsX1_find { frames := 3, cells := 0, slots := 0, locals := 70 }).room s m ([.ref a0, .ref b0, .int gl] : List Value).toArray below meth c H locs 0 0 (MQ below (ftQv D [(a0, .inr (1, [.ref ap, .ref ah, .int (nI r), .ref af, .ref as, .ref ag, .int (nI g)])), (ap, .inl (cI, 11, .inl pe)), (ah, .inl (cI, 11, .inl he)), (af, .inl (cI, 55, .inl f1)), (as, .inl (cI, 55, .inl f2)), (ag, .inl (cI, 55, .inl f3)), (b0, .inr (4, [.int len, .int att, .int en, .int (nI n), .ref bk, .ref bp, .ref bl, .ref br])), (bk, .inl (cI, 10, .inl kf)), (bp, .inl (cI, 10, .inl pf)), (br, .inl (cI, 10, .inl rf))] [(a0, .inr (1, [.ref ap, .ref ah, .int (nI (ftFlE len en kf pf rf pe he n).1), .ref af, .ref as, .ref ag, .int (nI (ftGhs (ftFlE len en kf pf rf pe he n) gl f1 f2 f3).1)])), (ap, .inl (cI, 11, .inl ((ftFlE len en kf pf rf pe he n).2.1))), (ah, .inl (cI, 11, .inl ((ftFlE len en kf pf rf pe he n).2.2))), (af, .inl (cI, 55, .inl ((ftGhs (ftFlE len en kf pf rf pe he n) gl f1 f2 f3).2.1))), (as, .inl (cI, 55, .inl ((ftGhs (ftFlE len en kf pf rf pe he n) gl f1 f2 f3).2.2.1))), (ag, .inl (cI, 55, .inl ((ftGhs (ftFlE len en kf pf rf pe he n) gl f1 f2 f3).2.2.2))), (b0, .inr (4, [.int len, .int att, .int en, .int (nI n), .ref bk, .ref bp, .ref bl, .ref br])), (bk, .inl (cI, 10, .inl kf)), (bp, .inl (cI, 10, .inl pf)), (br, .inl (cI, 10, .inl rf))] s.heap.size) ([.ref a0, .ref b0, .int gl] : List Value).toArray s 0 0 A) (F0 m 12 ls []) := by
    intro n12
    induction n12 with
    | zero =>
      intro i q x12_3 g12_a0_6 g12_af g12_as g12_ag hm12
      exact absurd hm12 (Nat.not_lt_zero _)
    | succ n12 ih12 =>
      intro i q x12_3 g12_a0_6 g12_af g12_as g12_ag hm12 hir hq ex12_3 eg12_a0_6 eg12_af eg12_as eg12_ag H locs hP hD hS ls hl
      subst ex12_3
      subst eg12_a0_6
      subst eg12_af
      subst eg12_as
      subst eg12_ag
      refine lv_iload_n hx hb dX1_find_12 rfl (lv_at hl 3 rfl) ?_
      have hq55 : q.1 ≤ ftPairs R9.1 i := by rw [hq]; exact ftGhOut_le _ _ gl R9.1 (0, f1, f2, f3) rfl i
      refine lv_aload_n hx hb dX1_find_13 rfl (lv_at hl 0 rfl) ?_
      refine va_get (D := D) (ci := 1) (v := .int (nI (R9).1)) (C := RX1) (T := TX1) (N := 7) hx hb hts (by decide +kernel) hown hK hP 0 rfl rfl 2 (by decide) (hts (.fieldLink RX1 35 "FiberTrace$Echoes" "reflections" "I") (by decide +kernel)) (fun _ h9 => h9) rfl dX1_find_14 ?_
      refine lv_icmp_ge (tgt := 98) hx hb dX1_find_17 (by decide) (fun c17 => ?_) (fun c17 => ?_)
      · have c17n : ((R9).1) ≤ i := ft_leN (by omega) (by omega) c17
        have hw9 : ([(a0, .inr (1, [.ref ap, .ref ah, .int (nI (R9).1), .ref af, .ref as, .ref ag, .int (nI q.1)])), (ap, .inl (cI, 11, .inl ((R9).2.1))), (ah, .inl (cI, 11, .inl ((R9).2.2))), (af, .inl (cI, 55, .inl q.2.1)), (as, .inl (cI, 55, .inl q.2.2.1)), (ag, .inl (cI, 55, .inl q.2.2.2)), (b0, .inr (4, [.int len, .int att, .int en, .int (nI n), .ref bk, .ref bp, .ref bl, .ref br])), (bk, .inl (cI, 10, .inl kf)), (bp, .inl (cI, 10, .inl pf)), (br, .inl (cI, 10, .inl rf))] : va_W) = [(a0, .inr (1, [.ref ap, .ref ah, .int (nI (ftFlE len en kf pf rf pe he n).1), .ref af, .ref as, .ref ag, .int (nI (ftGhs (ftFlE len en kf pf rf pe he n) gl f1 f2 f3).1)])), (ap, .inl (cI, 11, .inl ((ftFlE len en kf pf rf pe he n).2.1))), (ah, .inl (cI, 11, .inl ((ftFlE len en kf pf rf pe he n).2.2))), (af, .inl (cI, 55, .inl ((ftGhs (ftFlE len en kf pf rf pe he n) gl f1 f2 f3).2.1))), (as, .inl (cI, 55, .inl ((ftGhs (ftFlE len en kf pf rf pe he n) gl f1 f2 f3).2.2.1))), (ag, .inl (cI, 55, .inl ((ftGhs (ftFlE len en kf pf rf pe he n) gl f1 f2 f3).2.2.2))), (b0, .inr (4, [.int len, .int att, .int en, .int (nI n), .ref bk, .ref bp, .ref bl, .ref br])), (bk, .inl (cI, 10, .inl kf)), (bp, .inl (cI, 10, .inl pf)), (br, .inl (cI, 10, .inl rf))] := by (have hi9 : i = R9.1 := by omega); rw [← hR9, ftGhs, hq, hi9]
        rw [hw9] at hP hD
        exact W.vret hx hb hr (fun t ht hW => ⟨⟨(), rfl, trivial, by rw [ht]; exact hP, by rw [hAe]; exact hD⟩, by rw [hAe]; exact hS.F ht⟩) hS.2.2 dX1_find_98
      · have c17n : i < ((R9).1) := ft_nleN (by omega) (by omega) c17
        refine lv_iload_n hx hb dX1_find_20 rfl (lv_at hl 3 rfl) ?_
        refine lv_iconst (v := 1) hx hb dX1_find_21 (by decide) ?_
        refine lv_iadd hx hb dX1_find_22 ?_
        refine ft_top (y := nI (i + 1)) (ft_addN i 1) ?_
        refine lv_istore (lv' := [(4, .int (nI (i + 1))), (0, .ref a0), (1, .ref b0), (2, .int gl), (3, .int (nI i))]) hx hb dX1_find_23 hl (by decide) rfl (fun ls hl => ?_)
        have lp25 : ∀ (n25 : Nat) (j : Nat) (q2 : ftGs) (x25_4 : Int32) (g25_a0_6 : Int32) (g25_af : Nat → Int32) (g25_as : Nat → Int32) (g25_ag : Nat → Int32), R9.1 - j < n25 → (i + 1 ≤ j) → (j ≤ R9.1) → (q2 = ftGhIn R9.2.1 R9.2.2 gl i q (j - (i + 1))) → x25_4 = nI j → g25_a0_6 = nI q2.1 → g25_af = q2.2.1 → g25_as = q2.2.2.1 → g25_ag = q2.2.2.2 → ∀ (H : Heap) (locs : List Loc), va_P D vwCl [(a0, .inr (1, [.ref ap, .ref ah, .int (nI (R9).1), .ref af, .ref as, .ref ag, .int g25_a0_6])), (ap, .inl (cI, 11, .inl ((R9).2.1))), (ah, .inl (cI, 11, .inl ((R9).2.2))), (af, .inl (cI, 55, .inl g25_af)), (as, .inl (cI, 55, .inl g25_as)), (ag, .inl (cI, 55, .inl g25_ag)), (b0, .inr (4, [.int len, .int att, .int en, .int (nI n), .ref bk, .ref bp, .ref bl, .ref br])), (bk, .inl (cI, 10, .inl kf)), (bp, .inl (cI, 10, .inl pf)), (br, .inl (cI, 10, .inl rf))] H → va_D A [(a0, .inr (1, [.ref ap, .ref ah, .int (nI (R9).1), .ref af, .ref as, .ref ag, .int g25_a0_6])), (ap, .inl (cI, 11, .inl ((R9).2.1))), (ah, .inl (cI, 11, .inl ((R9).2.2))), (af, .inl (cI, 55, .inl g25_af)), (as, .inl (cI, 55, .inl g25_as)), (ag, .inl (cI, 55, .inl g25_ag)), (b0, .inr (4, [.int len, .int att, .int en, .int (nI n), .ref bk, .ref bp, .ref bl, .ref br])), (bk, .inl (cI, 10, .inl kf)), (bp, .inl (cI, 10, .inl pf)), (br, .inl (cI, 10, .inl rf))] → va_S A s.heap H locs → ∀ ls : Array Slot, lv_has ls 6 [(0, .ref a0), (1, .ref b0), (2, .int gl), (3, .int (nI i)), (4, .int x25_4)] → W p l e (headSpec wsX1_find { frames := 3, cells := 0, slots := 0, locals := 70 }).room s m ([.ref a0, .ref b0, .int gl] : List Value).toArray below meth c H locs 0 0 (MQ below (ftQv D [(a0, .inr (1, [.ref ap, .ref ah, .int (nI r), .ref af, .ref as, .ref ag, .int (nI g)])), (ap, .inl (cI, 11, .inl pe)), (ah, .inl (cI, 11, .inl he)), (af, .inl (cI, 55, .inl f1)), (as, .inl (cI, 55, .inl f2)), (ag, .inl (cI, 55, .inl f3)), (b0, .inr (4, [.int len, .int att, .int en, .int (nI n), .ref bk, .ref bp, .ref bl, .ref br])), (bk, .inl (cI, 10, .inl kf)), (bp, .inl (cI, 10, .inl pf)), (br, .inl (cI, 10, .inl rf))] [(a0, .inr (1, [.ref ap, .ref ah, .int (nI (ftFlE len en kf pf rf pe he n).1), .ref af, .ref as, .ref ag, .int (nI (ftGhs (ftFlE len en kf pf rf pe he n) gl f1 f2 f3).1)])), (ap, .inl (cI, 11, .inl ((ftFlE len en kf pf rf pe he n).2.1))), (ah, .inl (cI, 11, .inl ((ftFlE len en kf pf rf pe he n).2.2))), (af, .inl (cI, 55, .inl ((ftGhs (ftFlE len en kf pf rf pe he n) gl f1 f2 f3).2.1))), (as, .inl (cI, 55, .inl ((ftGhs (ftFlE len en kf pf rf pe he n) gl f1 f2 f3).2.2.1))), (ag, .inl (cI, 55, .inl ((ftGhs (ftFlE len en kf pf rf pe he n) gl f1 f2 f3).2.2.2))), (b0, .inr (4, [.int len, .int att, .int en, .int (nI n), .ref bk, .ref bp, .ref bl, .ref br])), (bk, .inl (cI, 10, .inl kf)), (bp, .inl (cI, 10, .inl pf)), (br, .inl (cI, 10, .inl rf))] s.heap.size) ([.ref a0, .ref b0, .int gl] : List Value).toArray s 0 0 A) (F0 m 25 ls []) := by
          intro n25
          induction n25 with
          | zero =>
            intro j q2 x25_4 g25_a0_6 g25_af g25_as g25_ag hm25
            exact absurd hm25 (Nat.not_lt_zero _)
          | succ n25 ih25 =>
            intro j q2 x25_4 g25_a0_6 g25_af g25_as g25_ag hm25 hij hjr hq2 ex25_4 eg25_a0_6 eg25_af eg25_as eg25_ag H locs hP hD hS ls hl
            subst ex25_4
            subst eg25_a0_6
            subst eg25_af
            subst eg25_as
            subst eg25_ag
            have hb55 : q2.1 < 55 ∨ R9.1 ≤ j := ftGh_room hq55 (by rw [hq2]; exact ftGhIn_le _ _ gl i q (j - (i + 1))) hij hjr (by omega)
            refine lv_iload hx hb dX1_find_25 (lv_at hl 4 rfl) ?_
            refine lv_aload_n hx hb dX1_find_27 rfl (lv_at hl 0 rfl) ?_
            refine va_get (D := D) (ci := 1) (v := .int (nI (R9).1)) (C := RX1) (T := TX1) (N := 7) hx hb hts (by decide +kernel) hown hK hP 0 rfl rfl 2 (by decide) (hts (.fieldLink RX1 35 "FiberTrace$Echoes" "reflections" "I") (by decide +kernel)) (fun _ h9 => h9) rfl dX1_find_28 ?_
            refine lv_icmp_ge (tgt := 92) hx hb dX1_find_31 (by decide) (fun c31 => ?_) (fun c31 => ?_)
            · have c31n : ((R9).1) ≤ j := ft_leN (by omega) (by omega) c31
              refine lv_iinc (v := nI (i + 1)) (lv' := [(3, .int (nI (i + 1))), (0, .ref a0), (1, .ref b0), (2, .int gl), (4, .int (nI j))]) hx hb dX1_find_92 hl (k := 3) rfl (ft_inc i) (by decide) rfl (fun ls hl => ?_)
              refine lv_goto (tgt := 12) hx hb dX1_find_95 (by decide) ?_
              exact ih12 (i + 1) q2 (nI (i + 1)) (nI q2.1) q2.2.1 q2.2.2.1 q2.2.2.2 (by omega) (by omega) (by show q2 = ftGhIn R9.2.1 R9.2.2 gl i (ftGhOut R9.2.1 R9.2.2 gl R9.1 (0, f1, f2, f3) i) (R9.1 - (i + 1)); rw [hq2, ← hq, show j - (i + 1) = R9.1 - (i + 1) by omega]) (by first | rfl | assumption) (by first | rfl | assumption) (by first | rfl | assumption) (by first | rfl | assumption) (by first | rfl | assumption) _ _ hP hD hS ls (lv_sub hl [1, 2, 3, 0] rfl)
            · have c31n : j < ((R9).1) := ft_nleN (by omega) (by omega) c31
              refine lv_aload_n hx hb dX1_find_34 rfl (lv_at hl 0 rfl) ?_
              refine va_get (D := D) (ci := 1) (v := .ref ah) (C := RX1) (T := TX1) (N := 7) hx hb hts (by decide +kernel) hown hK hP 0 rfl rfl 1 (by decide) (hts (.fieldLink RX1 15 "FiberTrace$Echoes" "heights" "[I") (by decide +kernel)) (fun _ h9 => h9) rfl dX1_find_35 ?_
              refine lv_iload_n hx hb dX1_find_38 rfl (lv_at hl 3 rfl) ?_
              refine ft_csi (r := ftAt 11 ((R9).2.2) (nI i)) (va_runSN (As := [.ref ah, .int (nI i)]) (rest := []) ⟨hx, hb, hml, hown, hts⟩ (c_X10_at l D cI cS ah 11 ((R9).2.2) (nI i) (by first | assumption | omega)) ⟨va_cnB 2 hts gX1_find_X10_at_n38 rfl rfl rfl (hKK.2 _ (List.mem_of_getElem? (i := 13) rfl)) (hts (.initialized RX10) (by decide +kernel)) (by decide +kernel) ⟨Nat.le_of_ble_eq_true rfl, Nat.le_of_ble_eq_true rfl⟩, hts (.static yX10_at) (by decide +kernel), trivial⟩ (ft_preRO hP hKK [2] rfl) rfl rfl hl.1 rfl (lv_room (Nat.le_of_ble_eq_true rfl)) dX1_find_39 ⟨Nat.le_of_ble_eq_true rfl, Nat.le_of_ble_eq_true rfl⟩) ?_
              refine ft_top (y := ((R9).2.2) i) (ftAt_N (by omega) (by omega)) ?_
              refine lv_aload_n hx hb dX1_find_42 rfl (lv_at hl 0 rfl) ?_
              refine va_get (D := D) (ci := 1) (v := .ref ah) (C := RX1) (T := TX1) (N := 7) hx hb hts (by decide +kernel) hown hK hP 0 rfl rfl 1 (by decide) (hts (.fieldLink RX1 15 "FiberTrace$Echoes" "heights" "[I") (by decide +kernel)) (fun _ h9 => h9) rfl dX1_find_43 ?_
              refine lv_iload hx hb dX1_find_46 (lv_at hl 4 rfl) ?_
              refine ft_csi (r := ftAt 11 ((R9).2.2) (nI j)) (va_runSN (As := [.ref ah, .int (nI j)]) (rest := [.int (((R9).2.2) i)]) ⟨hx, hb, hml, hown, hts⟩ (c_X10_at l D cI cS ah 11 ((R9).2.2) (nI j) (by first | assumption | omega)) ⟨va_cnB 2 hts gX1_find_X10_at_n38 rfl rfl rfl (hKK.2 _ (List.mem_of_getElem? (i := 13) rfl)) (hts (.initialized RX10) (by decide +kernel)) (by decide +kernel) ⟨Nat.le_of_ble_eq_true rfl, Nat.le_of_ble_eq_true rfl⟩, hts (.static yX10_at) (by decide +kernel), trivial⟩ (ft_preRO hP hKK [2] rfl) rfl rfl hl.1 rfl (lv_room (Nat.le_of_ble_eq_true rfl)) dX1_find_48 ⟨Nat.le_of_ble_eq_true rfl, Nat.le_of_ble_eq_true rfl⟩) ?_
              refine ft_top (y := ((R9).2.2) j) (ftAt_N (by omega) (by omega)) ?_
              refine lv_iadd hx hb dX1_find_51 ?_
              refine lv_iconst (v := 2) hx hb dX1_find_52 (by decide) ?_
              refine lv_idiv hx hb dX1_find_53 (by decide) ?_
              refine lv_iload_n hx hb dX1_find_54 rfl (lv_at hl 2 rfl) ?_
              refine lv_isub hx hb dX1_find_55 ?_
              refine lv_istore (lv' := [(5, .int ((((((R9).2.2) i) + (((R9).2.2) j)) / 2) - gl)), (0, .ref a0), (1, .ref b0), (2, .int gl), (3, .int (nI i)), (4, .int (nI j))]) hx hb dX1_find_56 hl (by decide) rfl (fun ls hl => ?_)
              refine lv_iload hx hb dX1_find_58 (lv_at hl 0 rfl) ?_
              refine lv_if_le (tgt := 86) hx hb dX1_find_60 (by decide) (fun c60 => ?_) (fun c60 => ?_)
              · obtain ⟨q3, hq3⟩ : ∃ q3, q3 = ftGhStep R9.2.1 R9.2.2 gl i j q2 := ⟨_, rfl⟩
                have h3q : q3 = q2 := by rw [hq3]; exact if_neg (Int32.not_lt.mpr c60)
                refine lv_iinc (v := nI (j + 1)) (lv' := [(4, .int (nI (j + 1))), (5, .int ((((((R9).2.2) i) + (((R9).2.2) j)) / 2) - gl)), (0, .ref a0), (1, .ref b0), (2, .int gl), (3, .int (nI i))]) hx hb dX1_find_86 hl (k := 5) rfl (ft_inc j) (by decide) rfl (fun ls hl => ?_)
                refine lv_goto (tgt := 25) hx hb dX1_find_89 (by decide) ?_
                exact ih25 (j + 1) q3 (nI (j + 1)) (nI q2.1) q2.2.1 q2.2.2.1 q2.2.2.2 (by omega) (by omega) (by omega) (by rw [hq3, hq2, show j + 1 - (i + 1) = (j - (i + 1)) + 1 by omega, ftGhIn, show i + 1 + (j - (i + 1)) = j by omega]) (by first | rfl | assumption) (by first | (rw [h3q]; done) | (rw [h3q]; rfl)) (by first | (rw [h3q]; done) | (rw [h3q]; rfl)) (by first | (rw [h3q]; done) | (rw [h3q]; rfl)) (by first | (rw [h3q]; done) | (rw [h3q]; rfl)) _ _ hP hD hS ls (lv_sub hl [2, 3, 4, 5, 0] rfl)
              · obtain ⟨q3, hq3⟩ : ∃ q3, q3 = ftGhStep R9.2.1 R9.2.2 gl i j q2 := ⟨_, rfl⟩
                have h3q : q3 = ftGhIns q2 (R9.2.1 i) (R9.2.1 j) (ftGhH R9.2.2 gl i j) := by rw [hq3]; exact if_pos (Int32.not_le.mp c60)
                refine lv_aload_n hx hb dX1_find_63 rfl (lv_at hl 1 rfl) ?_
                refine lv_aload_n hx hb dX1_find_64 rfl (lv_at hl 1 rfl) ?_
                refine va_get (D := D) (ci := 1) (v := .ref ap) (C := RX1) (T := TX1) (N := 7) hx hb hts (by decide +kernel) hown hK hP 0 rfl rfl 0 (by decide) (hts (.fieldLink RX1 9 "FiberTrace$Echoes" "places" "[I") (by decide +kernel)) (fun _ h9 => h9) rfl dX1_find_65 ?_
                refine lv_iload_n hx hb dX1_find_68 rfl (lv_at hl 4 rfl) ?_
                refine ft_csi (r := ftAt 11 ((R9).2.1) (nI i)) (va_runSN (As := [.ref ap, .int (nI i)]) (rest := [.ref a0]) ⟨hx, hb, hml, hown, hts⟩ (c_X10_at l D cI cS ap 11 ((R9).2.1) (nI i) (by first | assumption | omega)) ⟨va_cnB 2 hts gX1_find_X10_at_n38 rfl rfl rfl (hKK.2 _ (List.mem_of_getElem? (i := 13) rfl)) (hts (.initialized RX10) (by decide +kernel)) (by decide +kernel) ⟨Nat.le_of_ble_eq_true rfl, Nat.le_of_ble_eq_true rfl⟩, hts (.static yX10_at) (by decide +kernel), trivial⟩ (ft_preRO hP hKK [1] rfl) rfl rfl hl.1 rfl (lv_room (Nat.le_of_ble_eq_true rfl)) dX1_find_69 ⟨Nat.le_of_ble_eq_true rfl, Nat.le_of_ble_eq_true rfl⟩) ?_
                refine ft_top (y := ((R9).2.1) i) (ftAt_N (by omega) (by omega)) ?_
                refine lv_aload_n hx hb dX1_find_72 rfl (lv_at hl 1 rfl) ?_
                refine va_get (D := D) (ci := 1) (v := .ref ap) (C := RX1) (T := TX1) (N := 7) hx hb hts (by decide +kernel) hown hK hP 0 rfl rfl 0 (by decide) (hts (.fieldLink RX1 9 "FiberTrace$Echoes" "places" "[I") (by decide +kernel)) (fun _ h9 => h9) rfl dX1_find_73 ?_
                refine lv_iload hx hb dX1_find_76 (lv_at hl 5 rfl) ?_
                refine ft_csi (r := ftAt 11 ((R9).2.1) (nI j)) (va_runSN (As := [.ref ap, .int (nI j)]) (rest := [.int (((R9).2.1) i), .ref a0]) ⟨hx, hb, hml, hown, hts⟩ (c_X10_at l D cI cS ap 11 ((R9).2.1) (nI j) (by first | assumption | omega)) ⟨va_cnB 2 hts gX1_find_X10_at_n38 rfl rfl rfl (hKK.2 _ (List.mem_of_getElem? (i := 13) rfl)) (hts (.initialized RX10) (by decide +kernel)) (by decide +kernel) ⟨Nat.le_of_ble_eq_true rfl, Nat.le_of_ble_eq_true rfl⟩, hts (.static yX10_at) (by decide +kernel), trivial⟩ (ft_preRO hP hKK [1] rfl) rfl rfl hl.1 rfl (lv_room (Nat.le_of_ble_eq_true rfl)) dX1_find_78 ⟨Nat.le_of_ble_eq_true rfl, Nat.le_of_ble_eq_true rfl⟩) ?_
                refine ft_top (y := ((R9).2.1) j) (ftAt_N (by omega) (by omega)) ?_
                refine lv_iload hx hb dX1_find_81 (lv_at hl 0 rfl) ?_
                refine ft_cv (wc := [(a0, .inr (1, [.ref ap, .ref ah, .int (nI (R9).1), .ref af, .ref as, .ref ag, .int (nI q2.1)])), (af, .inl (cI, 55, .inl q2.2.1)), (as, .inl (cI, 55, .inl q2.2.2.1)), (ag, .inl (cI, 55, .inl q2.2.2.2))]) (wr := [(ap, .inl (cI, 11, .inl ((R9).2.1))), (ah, .inl (cI, 11, .inl ((R9).2.2))), (b0, .inr (4, [.int len, .int att, .int en, .int (nI n), .ref bk, .ref bp, .ref bl, .ref br])), (bk, .inl (cI, 10, .inl kf)), (bp, .inl (cI, 10, .inl pf)), (br, .inl (cI, 10, .inl rf))]) (w1 := [(a0, .inr (1, [.ref ap, .ref ah, .int (nI ((R9).1)), .ref af, .ref as, .ref ag, .int (nI (ftGhIns (q2.1, q2.2.1, q2.2.2.1, q2.2.2.2) (((R9).2.1) i) (((R9).2.1) j) ((((((R9).2.2) i) + (((R9).2.2) j)) / 2) - gl)).1)])), (af, .inl (cI, 55, .inl ((ftGhIns (q2.1, q2.2.1, q2.2.2.1, q2.2.2.2) (((R9).2.1) i) (((R9).2.1) j) ((((((R9).2.2) i) + (((R9).2.2) j)) / 2) - gl)).2.1))), (as, .inl (cI, 55, .inl ((ftGhIns (q2.1, q2.2.1, q2.2.2.1, q2.2.2.2) (((R9).2.1) i) (((R9).2.1) j) ((((((R9).2.2) i) + (((R9).2.2) j)) / 2) - gl)).2.2.1))), (ag, .inl (cI, 55, .inl ((ftGhIns (q2.1, q2.2.1, q2.2.2.1, q2.2.2.2) (((R9).2.1) i) (((R9).2.1) j) ((((((R9).2.2) i) + (((R9).2.2) j)) / 2) - gl)).2.2.2)))]) (ws1 := [(a0, .inr (1, [.ref ap, .ref ah, .int (nI ((R9).1)), .ref af, .ref as, .ref ag, .int (nI (ftGhIns (q2.1, q2.2.1, q2.2.2.1, q2.2.2.2) (((R9).2.1) i) (((R9).2.1) j) ((((((R9).2.2) i) + (((R9).2.2) j)) / 2) - gl)).1)])), (ap, .inl (cI, 11, .inl ((R9).2.1))), (ah, .inl (cI, 11, .inl ((R9).2.2))), (af, .inl (cI, 55, .inl ((ftGhIns (q2.1, q2.2.1, q2.2.2.1, q2.2.2.2) (((R9).2.1) i) (((R9).2.1) j) ((((((R9).2.2) i) + (((R9).2.2) j)) / 2) - gl)).2.1))), (as, .inl (cI, 55, .inl ((ftGhIns (q2.1, q2.2.1, q2.2.2.1, q2.2.2.2) (((R9).2.1) i) (((R9).2.1) j) ((((((R9).2.2) i) + (((R9).2.2) j)) / 2) - gl)).2.2.1))), (ag, .inl (cI, 55, .inl ((ftGhIns (q2.1, q2.2.1, q2.2.2.1, q2.2.2.2) (((R9).2.1) i) (((R9).2.1) j) ((((((R9).2.2) i) + (((R9).2.2) j)) / 2) - gl)).2.2.2))), (b0, .inr (4, [.int len, .int att, .int en, .int (nI n), .ref bk, .ref bp, .ref bl, .ref br])), (bk, .inl (cI, 10, .inl kf)), (bp, .inl (cI, 10, .inl pf)), (br, .inl (cI, 10, .inl rf))]) (va_runV (C := RX1) (As := [.int (((R9).2.1) i), .int (((R9).2.1) j), .int ((((((R9).2.2) i) + (((R9).2.2) j)) / 2) - gl)]) (rest := []) ⟨hx, hb, hml, hown, hts⟩ (c_X1_addGhost l D cI cS H.size a0 ap ah af as ag ((R9).1) q2.1 q2.2.1 q2.2.2.1 q2.2.2.2 (((R9).2.1) i) (((R9).2.1) j) ((((((R9).2.2) i) + (((R9).2.2) j)) / 2) - gl) (by first | assumption | omega)) (cwV 3 hts gX1_find_X1_addGhost rfl rfl rfl (by decide +kernel) ⟨Nat.le_of_ble_eq_true rfl, Nat.le_of_ble_eq_true rfl⟩) (ft_preRWV (ci := 1) (q0 := 0) hP hD hKK [0, 3, 4, 5] rfl rfl rfl rfl rfl) rfl rfl hl.1 rfl (lv_room (Nat.le_of_ble_eq_true rfl)) dX1_find_83 ⟨Nat.le_of_ble_eq_true rfl, Nat.le_of_ble_eq_true rfl⟩) hP hD hS hA [0, 3, 4, 5] [1, 2, 6, 7, 8, 9] [6, 0, 1, 7, 8, 9, 2, 3, 4, 5] rfl rfl (by decide) (by decide) (by decide) rfl rfl (fun H locs hP hD hS => ?_)
                have hP : va_P D vwCl [(a0, .inr (1, [.ref ap, .ref ah, .int (nI ((R9).1)), .ref af, .ref as, .ref ag, .int (nI (ftGhIns (q2.1, q2.2.1, q2.2.2.1, q2.2.2.2) (((R9).2.1) i) (((R9).2.1) j) ((((((R9).2.2) i) + (((R9).2.2) j)) / 2) - gl)).1)])), (ap, .inl (cI, 11, .inl ((R9).2.1))), (ah, .inl (cI, 11, .inl ((R9).2.2))), (af, .inl (cI, 55, .inl ((ftGhIns (q2.1, q2.2.1, q2.2.2.1, q2.2.2.2) (((R9).2.1) i) (((R9).2.1) j) ((((((R9).2.2) i) + (((R9).2.2) j)) / 2) - gl)).2.1))), (as, .inl (cI, 55, .inl ((ftGhIns (q2.1, q2.2.1, q2.2.2.1, q2.2.2.2) (((R9).2.1) i) (((R9).2.1) j) ((((((R9).2.2) i) + (((R9).2.2) j)) / 2) - gl)).2.2.1))), (ag, .inl (cI, 55, .inl ((ftGhIns (q2.1, q2.2.1, q2.2.2.1, q2.2.2.2) (((R9).2.1) i) (((R9).2.1) j) ((((((R9).2.2) i) + (((R9).2.2) j)) / 2) - gl)).2.2.2))), (b0, .inr (4, [.int len, .int att, .int en, .int (nI n), .ref bk, .ref bp, .ref bl, .ref br])), (bk, .inl (cI, 10, .inl kf)), (bp, .inl (cI, 10, .inl pf)), (br, .inl (cI, 10, .inl rf))] H := hP
                have hD : va_D A [(a0, .inr (1, [.ref ap, .ref ah, .int (nI ((R9).1)), .ref af, .ref as, .ref ag, .int (nI (ftGhIns (q2.1, q2.2.1, q2.2.2.1, q2.2.2.2) (((R9).2.1) i) (((R9).2.1) j) ((((((R9).2.2) i) + (((R9).2.2) j)) / 2) - gl)).1)])), (ap, .inl (cI, 11, .inl ((R9).2.1))), (ah, .inl (cI, 11, .inl ((R9).2.2))), (af, .inl (cI, 55, .inl ((ftGhIns (q2.1, q2.2.1, q2.2.2.1, q2.2.2.2) (((R9).2.1) i) (((R9).2.1) j) ((((((R9).2.2) i) + (((R9).2.2) j)) / 2) - gl)).2.1))), (as, .inl (cI, 55, .inl ((ftGhIns (q2.1, q2.2.1, q2.2.2.1, q2.2.2.2) (((R9).2.1) i) (((R9).2.1) j) ((((((R9).2.2) i) + (((R9).2.2) j)) / 2) - gl)).2.2.1))), (ag, .inl (cI, 55, .inl ((ftGhIns (q2.1, q2.2.1, q2.2.2.1, q2.2.2.2) (((R9).2.1) i) (((R9).2.1) j) ((((((R9).2.2) i) + (((R9).2.2) j)) / 2) - gl)).2.2.2))), (b0, .inr (4, [.int len, .int att, .int en, .int (nI n), .ref bk, .ref bp, .ref bl, .ref br])), (bk, .inl (cI, 10, .inl kf)), (bp, .inl (cI, 10, .inl pf)), (br, .inl (cI, 10, .inl rf))] := hD
                refine lv_iinc (v := nI (j + 1)) (lv' := [(4, .int (nI (j + 1))), (5, .int ((((((R9).2.2) i) + (((R9).2.2) j)) / 2) - gl)), (0, .ref a0), (1, .ref b0), (2, .int gl), (3, .int (nI i))]) hx hb dX1_find_86 hl (k := 5) rfl (ft_inc j) (by decide) rfl (fun ls hl => ?_)
                refine lv_goto (tgt := 25) hx hb dX1_find_89 (by decide) ?_
                exact ih25 (j + 1) q3 (nI (j + 1)) (nI (ftGhIns (q2.1, q2.2.1, q2.2.2.1, q2.2.2.2) (((R9).2.1) i) (((R9).2.1) j) ((((((R9).2.2) i) + (((R9).2.2) j)) / 2) - gl)).1) ((ftGhIns (q2.1, q2.2.1, q2.2.2.1, q2.2.2.2) (((R9).2.1) i) (((R9).2.1) j) ((((((R9).2.2) i) + (((R9).2.2) j)) / 2) - gl)).2.1) ((ftGhIns (q2.1, q2.2.1, q2.2.2.1, q2.2.2.2) (((R9).2.1) i) (((R9).2.1) j) ((((((R9).2.2) i) + (((R9).2.2) j)) / 2) - gl)).2.2.1) ((ftGhIns (q2.1, q2.2.1, q2.2.2.1, q2.2.2.2) (((R9).2.1) i) (((R9).2.1) j) ((((((R9).2.2) i) + (((R9).2.2) j)) / 2) - gl)).2.2.2) (by omega) (by omega) (by omega) (by rw [hq3, hq2, show j + 1 - (i + 1) = (j - (i + 1)) + 1 by omega, ftGhIn, show i + 1 + (j - (i + 1)) = j by omega]) (by first | rfl | assumption) (by first | (rw [h3q]; done) | (rw [h3q]; rfl)) (by first | (rw [h3q]; done) | (rw [h3q]; rfl)) (by first | (rw [h3q]; done) | (rw [h3q]; rfl)) (by first | (rw [h3q]; done) | (rw [h3q]; rfl)) _ _ hP hD hS ls (lv_sub hl [2, 3, 4, 5, 0] rfl)
        exact lp25 _ (i + 1) q (nI (i + 1)) (nI q.1) q.2.1 q.2.2.1 q.2.2.2 (Nat.lt_succ_self _) (by omega) (by omega) (by rw [Nat.sub_self]; rfl) (by rfl) (by rfl) (by rfl) (by rfl) (by rfl) _ _ hP hD hS ls (lv_sub hl [1, 2, 3, 4, 0] rfl)
  exact lp12 _ 0 (0, f1, f2, f3) 0 0 f1 f2 f3 (Nat.lt_succ_self _) (by omega) (by rfl) (by rfl) (by rfl) (by rfl) (by rfl) (by rfl) _ _ hP hD hS ls (lv_sub hl [1, 2, 3, 0] rfl)
