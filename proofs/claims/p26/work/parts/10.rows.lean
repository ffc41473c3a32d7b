/-! rows: a place made, a place taken away, a sum -/
def ftIns (f : Nat → Int32) (u k : Nat) (x : Int32) : Nat → Int32 := fun t => if t = k then x else if k < t ∧ t ≤ u then f (t - 1) else f t
def ftInsG (f : Nat → Int32) (u j : Nat) : Nat → Int32 := fun t => if j < t ∧ t ≤ u then f (t - 1) else f t
theorem ftInsG_0 (f : Nat → Int32) (u : Nat) : f = ftInsG f u u := funext fun t => (if_neg (by omega)).symm
theorem ftInsG_s {f : Nat → Int32} {u j : Nat} (h : 0 < j) (hj : j ≤ u) : upd (ftInsG f u j) j (ftInsG f u j (j - 1)) = ftInsG f u (j - 1) := by
  funext t
  unfold upd ftInsG
  rcases Nat.lt_trichotomy t j with q | q | q
  · rw [if_neg (by omega), if_neg (by omega), if_neg (by omega)]
  · subst q; rw [if_pos rfl, if_neg (by omega), if_pos (by omega)]
  · rw [if_neg (by omega)]
    by_cases r : t ≤ u
    · rw [if_pos (by omega), if_pos (by omega)]
    · rw [if_neg (by omega), if_neg (by omega)]
theorem ftInsG_e {f : Nat → Int32} {u k : Nat} {x : Int32} : upd (ftInsG f u k) k x = ftIns f u k x := rfl
def ftRem (f : Nat → Int32) (u k : Nat) : Nat → Int32 := fun t => if k ≤ t ∧ t + 1 < u then f (t + 1) else f t
def ftRemG (f : Nat → Int32) (k j : Nat) : Nat → Int32 := fun t => if k ≤ t ∧ t < j then f (t + 1) else f t
theorem ftRemG_0 (f : Nat → Int32) (k : Nat) : f = ftRemG f k k := funext fun t => (if_neg (by omega)).symm
theorem ftRemG_s {f : Nat → Int32} {k j : Nat} (hj : k ≤ j) : upd (ftRemG f k j) j (ftRemG f k j (j + 1)) = ftRemG f k (j + 1) := by
  funext t
  unfold upd ftRemG
  rcases Nat.lt_trichotomy t j with q | q | q
  · rw [if_neg (by omega)]
    by_cases r : k ≤ t
    · rw [if_pos (by omega), if_pos (by omega)]
    · rw [if_neg (by omega), if_neg (by omega)]
  · subst q; rw [if_pos rfl, if_neg (by omega), if_pos (by omega)]
  · rw [if_neg (by omega), if_neg (by omega), if_neg (by omega)]
theorem ftRemG_e {f : Nat → Int32} {u k j : Nat} (h1 : u ≤ j + 1) (h2 : j + 1 ≤ u) : ftRemG f k j = ftRem f u k := by
  funext t
  unfold ftRemG ftRem
  by_cases q : k ≤ t ∧ t < j
  · rw [if_pos q, if_pos (by omega)]
  · rw [if_neg q, if_neg (by omega)]
def ftSum (f : Nat → Int32) : Nat → Int32
  | 0 => 0
  | n + 1 => ftSum f n + f n
set_option maxHeartbeats 4000000 in
set_option maxRecDepth 100000 in
theorem c_X10_insertInto (l : Launch) (D : va_G) (cI cS : ClassId) (sz : Nat) (row n : Nat) (f : Nat → Int32) (u k : Nat) (x : Int32) (hn : n < 2 ^ 31) (hku : k ≤ u) (hun : u < n) : Met l yX10_insertInto wsX10_insertInto ({ frames := 1, cells := 0, slots := 0, locals := 22 }) (ftRW D cI cS [.ref row, .int (nI u), .int (nI k), .int x] [(row, .inl (cI, n, .inl f))] sz) (ftQv D [(row, .inl (cI, n, .inl f))] [(row, .inl (cI, n, .inl (ftIns f u k x)))] sz) 0 0 (va_A [(row, .inl (cI, n, .inl f))] sz) := by
  refine Met.ofW (cc := cX10_insertInto) (maxL := 5) (ret := none) (by decide) rfl ?_
  intro p e s m args below meth c s₁ B hml hv
  obtain ⟨rfl, hsz, hP, hKK, hD0⟩ := hv
  have hK := hKK.1
  have hx := B.exec
  have hb := B.bytes
  have hr := B.returns
  have hts := atoms_spec (ws := wsX10_insertInto) B.pre
  have hown : s.vm.findClass RX10 = some m.cls := findClass_of_methodNamed B.named
  have hlocks := B.notSynchronized
  subst hsz
  have hD := hD0.self (sz := s.heap.size)
  generalize hAe : va_A [(row, .inl (cI, n, .inl f))] s.heap.size = A at hD ⊢
  have hA : ∀ q : Nat, s.heap.size ≤ q → A q := fun q h => by rw [← hAe]; exact Or.inr h
  have hS : va_S A s.heap s.heap [] := va_S.rf
  have hD : va_D A [(row, .inl (cI, n, .inl f))] := hD
  have hP : va_P D vwCl [(row, .inl (cI, n, .inl f))] s.heap := hP
  have hl := lv_entry ([.ref row, .int (nI u), .int (nI k), .int x]) (n := 5) (Nat.le_of_ble_eq_true rfl)
  rw [lg_entry_eq]
  generalize (lg_sl ([.ref row, .int (nI u), .int (nI k), .int x]) ++ List.replicate (5 - (lg_sl ([.ref row, .int (nI u), .int (nI k), .int x])).length) Slot.unset).toArray = ls at hl ⊢
  have hl : lv_has ls 5 [(0, .ref row), (1, .int (nI u)), (2, .int (nI k)), (3, .int x)] := hl
  refine lv_iload_n hx hb dX10_insertInto_0 rfl (lv_at hl 1 rfl) ?_
  refine lv_istore (lv' := [(4, .int (nI u)), (0, .ref row), (1, .int (nI u)), (2, .int (nI k)), (3, .int x)]) hx hb dX10_insertInto_1 hl (by decide) rfl (fun ls hl => ?_)
  have lp3 : ∀ (n3 : Nat) (j : Nat) (x3_4 : Int32) (g3_row : Nat → Int32), j < n3 → (k ≤ j) → (j ≤ u) → x3_4 = nI j → g3_row = ftInsG f u j → ∀ (H : Heap) (locs : List Loc), va_P D vwCl [(row, .inl (cI, n, .inl g3_row))] H → va_D A [(row, .inl (cI, n, .inl g3_row))] → va_S A s.heap H locs → ∀ ls : Array Slot, lv_has ls 5 [(0, .ref row), (1, .int (nI u)), (2, .int (nI k)), (3, .int x), (4, .int x3_4)] → W p l e (headSpec wsX10_insertInto { frames := 1, cells := 0, slots := 0, locals := 22 }).room s m ([.ref row, .int (nI u), .int (nI k), .int x] : List Value).toArray below meth c H locs 0 0 (MQ below (ftQv D [(row, .inl (cI, n, .inl f))] [(row, .inl (cI, n, .inl (ftIns f u k x)))] s.heap.size) ([.ref row, .int (nI u), .int (nI k), .int x] : List Value).toArray s 0 0 A) (F0 m 3 ls []) := by
    intro n3
    induction n3 with
    | zero =>
      intro j x3_4 g3_row hm3
      exact absurd hm3 (Nat.not_lt_zero _)
    | succ n3 ih3 =>
      intro j x3_4 g3_row hm3 hkj hju ex3_4 eg3_row H locs hP hD hS ls hl
      subst ex3_4
      refine lv_iload hx hb dX10_insertInto_3 (lv_at hl 4 rfl) ?_
      refine lv_iload_n hx hb dX10_insertInto_5 rfl (lv_at hl 2 rfl) ?_
      refine lv_icmp_le (tgt := 29) hx hb dX10_insertInto_6 (by decide) (fun c6 => ?_) (fun c6 => ?_)
      · have c6n : j ≤ k := ft_leN (by omega) (by omega) c6
        refine lv_aload_n hx hb dX10_insertInto_29 rfl (lv_at hl 0 rfl) ?_
        refine lv_iload_n hx hb dX10_insertInto_30 rfl (lv_at hl 2 rfl) ?_
        refine lv_iload_n hx hb dX10_insertInto_31 rfl (lv_at hl 3 rfl) ?_
        refine ft_cv (wc := [(row, .inl (cI, n, .inl g3_row))]) (wr := []) (w1 := [(row, .inl (cI, n, .inl (ftPut n g3_row (nI k) x)))]) (ws1 := [(row, .inl (cI, n, .inl (ftPut n g3_row (nI k) x)))]) (va_runS (As := [.ref row, .int (nI k), .int x]) (rest := []) ⟨hx, hb, hml, hown, hts⟩ (c_X10_put l D cI cS H.size row n g3_row (nI k) x hn) (va_cwS 3 hts gX10_insertInto_X10_put rfl rfl rfl (by decide +kernel) ⟨Nat.le_of_ble_eq_true rfl, Nat.le_of_ble_eq_true rfl⟩) (ft_preRW hP hD hKK [0] rfl rfl rfl) rfl rfl hl.1 rfl (lv_room (Nat.le_of_ble_eq_true rfl)) dX10_insertInto_32 ⟨Nat.le_of_ble_eq_true rfl, Nat.le_of_ble_eq_true rfl⟩) hP hD hS hA [0] [] [0] rfl rfl (by decide) (by decide) (by decide) rfl rfl (fun H locs hP hD hS => ?_)
        rw [ftPut_N (k := k) (by omega) (by omega)] at hP hD
        have hP : va_P D vwCl [(row, .inl (cI, n, .inl (upd g3_row k x)))] H := hP
        have hD : va_D A [(row, .inl (cI, n, .inl (upd g3_row k x)))] := hD
        have hw9 : ([(row, .inl (cI, n, .inl (upd g3_row k x)))] : va_W) = [(row, .inl (cI, n, .inl (ftIns f u k x)))] := by (obtain rfl : k = j := by omega); rw [eg3_row]; rfl
        rw [hw9] at hP hD
        exact W.vret hx hb hr (fun t ht hW => ⟨⟨(), rfl, trivial, by rw [ht]; exact hP, by rw [hAe]; exact hD⟩, by rw [hAe]; exact hS.F ht⟩) hS.2.2 dX10_insertInto_35
      · have c6n : k < j := ft_nleN (by omega) (by omega) c6
        refine lv_aload_n hx hb dX10_insertInto_9 rfl (lv_at hl 0 rfl) ?_
        refine lv_iload hx hb dX10_insertInto_10 (lv_at hl 4 rfl) ?_
        refine lv_aload_n hx hb dX10_insertInto_12 rfl (lv_at hl 0 rfl) ?_
        refine lv_iload hx hb dX10_insertInto_13 (lv_at hl 4 rfl) ?_
        refine lv_iconst (v := 1) hx hb dX10_insertInto_15 (by decide) ?_
        refine lv_isub hx hb dX10_insertInto_16 ?_
        refine ft_top (y := nI (j - 1)) (ft_subN (a := j) (b := 1) (by omega)) ?_
        refine ft_csi (r := ftAt n g3_row (nI (j - 1))) (va_runS (As := [.ref row, .int (nI (j - 1))]) (rest := [.int (nI j), .ref row]) ⟨hx, hb, hml, hown, hts⟩ (c_X10_at l D cI cS row n g3_row (nI (j - 1)) hn) (va_cwS 2 hts gX10_insertInto_X10_at rfl rfl rfl (by decide +kernel) ⟨Nat.le_of_ble_eq_true rfl, Nat.le_of_ble_eq_true rfl⟩) (ft_preRO hP hKK [0] rfl) rfl rfl hl.1 rfl (lv_room (Nat.le_of_ble_eq_true rfl)) dX10_insertInto_17 ⟨Nat.le_of_ble_eq_true rfl, Nat.le_of_ble_eq_true rfl⟩) ?_
        refine ft_top (y := g3_row (j - 1)) (ftAt_N (by omega) (by omega)) ?_
        refine ft_cv (wc := [(row, .inl (cI, n, .inl g3_row))]) (wr := []) (w1 := [(row, .inl (cI, n, .inl (ftPut n g3_row (nI j) (g3_row (j - 1)))))]) (ws1 := [(row, .inl (cI, n, .inl (ftPut n g3_row (nI j) (g3_row (j - 1)))))]) (va_runS (As := [.ref row, .int (nI j), .int (g3_row (j - 1))]) (rest := []) ⟨hx, hb, hml, hown, hts⟩ (c_X10_put l D cI cS H.size row n g3_row (nI j) (g3_row (j - 1)) hn) (va_cwS 3 hts gX10_insertInto_X10_put rfl rfl rfl (by decide +kernel) ⟨Nat.le_of_ble_eq_true rfl, Nat.le_of_ble_eq_true rfl⟩) (ft_preRW hP hD hKK [0] rfl rfl rfl) rfl rfl hl.1 rfl (lv_room (Nat.le_of_ble_eq_true rfl)) dX10_insertInto_20 ⟨Nat.le_of_ble_eq_true rfl, Nat.le_of_ble_eq_true rfl⟩) hP hD hS hA [0] [] [0] rfl rfl (by decide) (by decide) (by decide) rfl rfl (fun H locs hP hD hS => ?_)
        rw [ftPut_N (k := j) (by omega) (by omega)] at hP hD
        have hP : va_P D vwCl [(row, .inl (cI, n, .inl (upd g3_row j (g3_row (j - 1)))))] H := hP
        have hD : va_D A [(row, .inl (cI, n, .inl (upd g3_row j (g3_row (j - 1)))))] := hD
        refine lv_iinc (v := nI (j - 1)) (lv' := [(4, .int (nI (j - 1))), (0, .ref row), (1, .int (nI u)), (2, .int (nI k)), (3, .int x)]) hx hb dX10_insertInto_23 hl (k := 4) rfl (ft_dec (by omega)) (by decide) rfl (fun ls hl => ?_)
        refine lv_goto (tgt := 3) hx hb dX10_insertInto_26 (by decide) ?_
        exact ih3 (j - 1) (nI (j - 1)) (upd g3_row j (g3_row (j - 1))) (by omega) (by omega) (by omega) (by first | rfl | assumption) (by rw [eg3_row]; exact ftInsG_s (by omega) hju) _ _ hP hD hS ls (lv_sub hl [1, 2, 3, 4, 0] rfl)
  exact lp3 _ u (nI u) f (Nat.lt_succ_self _) (by omega) (by omega) (by rfl) (by exact ftInsG_0 f u) _ _ hP hD hS ls (lv_sub hl [1, 2, 3, 4, 0] rfl)
set_option maxHeartbeats 4000000 in
set_option maxRecDepth 100000 in
theorem c_X10_removeFrom (l : Launch) (D : va_G) (cI cS : ClassId) (sz : Nat) (row n : Nat) (f : Nat → Int32) (u k : Nat) (hn : n < 2 ^ 31) (hku : k < u) (hun : u ≤ n) : Met l yX10_removeFrom wsX10_removeFrom ({ frames := 1, cells := 0, slots := 0, locals := 22 }) (ftRW D cI cS [.ref row, .int (nI u), .int (nI k)] [(row, .inl (cI, n, .inl f))] sz) (ftQv D [(row, .inl (cI, n, .inl f))] [(row, .inl (cI, n, .inl (ftRem f u k)))] sz) 0 0 (va_A [(row, .inl (cI, n, .inl f))] sz) := by
  refine Met.ofW (cc := cX10_removeFrom) (maxL := 4) (ret := none) (by decide) rfl ?_
  intro p e s m args below meth c s₁ B hml hv
  obtain ⟨rfl, hsz, hP, hKK, hD0⟩ := hv
  have hK := hKK.1
  have hx := B.exec
  have hb := B.bytes
  have hr := B.returns
  have hts := atoms_spec (ws := wsX10_removeFrom) B.pre
  have hown : s.vm.findClass RX10 = some m.cls := findClass_of_methodNamed B.named
  have hlocks := B.notSynchronized
  subst hsz
  have hD := hD0.self (sz := s.heap.size)
  generalize hAe : va_A [(row, .inl (cI, n, .inl f))] s.heap.size = A at hD ⊢
  have hA : ∀ q : Nat, s.heap.size ≤ q → A q := fun q h => by rw [← hAe]; exact Or.inr h
  have hS : va_S A s.heap s.heap [] := va_S.rf
  have hD : va_D A [(row, .inl (cI, n, .inl f))] := hD
  have hP : va_P D vwCl [(row, .inl (cI, n, .inl f))] s.heap := hP
  have hl := lv_entry ([.ref row, .int (nI u), .int (nI k)]) (n := 4) (Nat.le_of_ble_eq_true rfl)
  rw [lg_entry_eq]
  generalize (lg_sl ([.ref row, .int (nI u), .int (nI k)]) ++ List.replicate (4 - (lg_sl ([.ref row, .int (nI u), .int (nI k)])).length) Slot.unset).toArray = ls at hl ⊢
  have hl : lv_has ls 4 [(0, .ref row), (1, .int (nI u)), (2, .int (nI k))] := hl
  refine lv_iload_n hx hb dX10_removeFrom_0 rfl (lv_at hl 2 rfl) ?_
  refine lv_istore_n (lv' := [(3, .int (nI k)), (0, .ref row), (1, .int (nI u)), (2, .int (nI k))]) hx hb dX10_removeFrom_1 rfl hl (by decide) rfl (fun ls hl => ?_)
  have lp2 : ∀ (n2 : Nat) (j : Nat) (x2_3 : Int32) (g2_row : Nat → Int32), u - j < n2 → (k ≤ j) → (j + 1 ≤ u) → x2_3 = nI j → g2_row = ftRemG f k j → ∀ (H : Heap) (locs : List Loc), va_P D vwCl [(row, .inl (cI, n, .inl g2_row))] H → va_D A [(row, .inl (cI, n, .inl g2_row))] → va_S A s.heap H locs → ∀ ls : Array Slot, lv_has ls 4 [(0, .ref row), (1, .int (nI u)), (2, .int (nI k)), (3, .int x2_3)] → W p l e (headSpec wsX10_removeFrom { frames := 1, cells := 0, slots := 0, locals := 22 }).room s m ([.ref row, .int (nI u), .int (nI k)] : List Value).toArray below meth c H locs 0 0 (MQ below (ftQv D [(row, .inl (cI, n, .inl f))] [(row, .inl (cI, n, .inl (ftRem f u k)))] s.heap.size) ([.ref row, .int (nI u), .int (nI k)] : List Value).toArray s 0 0 A) (F0 m 2 ls []) := by
    intro n2
    induction n2 with
    | zero =>
      intro j x2_3 g2_row hm2
      exact absurd hm2 (Nat.not_lt_zero _)
    | succ n2 ih2 =>
      intro j x2_3 g2_row hm2 hkj hju ex2_3 eg2_row H locs hP hD hS ls hl
      subst ex2_3
      refine lv_iload_n hx hb dX10_removeFrom_2 rfl (lv_at hl 3 rfl) ?_
      refine lv_iload_n hx hb dX10_removeFrom_3 rfl (lv_at hl 1 rfl) ?_
      refine lv_iconst (v := 1) hx hb dX10_removeFrom_4 (by decide) ?_
      refine lv_isub hx hb dX10_removeFrom_5 ?_
      refine ft_top (y := nI (u - 1)) (ft_subN (a := u) (b := 1) (by omega)) ?_
      refine lv_icmp_ge (tgt := 27) hx hb dX10_removeFrom_6 (by decide) (fun c6 => ?_) (fun c6 => ?_)
      · have c6n : (u - 1) ≤ j := ft_leN (by omega) (by omega) c6
        have hw9 : ([(row, .inl (cI, n, .inl g2_row))] : va_W) = [(row, .inl (cI, n, .inl (ftRem f u k)))] := by rw [eg2_row, ftRemG_e (u := u) (by omega) hju]
        rw [hw9] at hP hD
        exact W.vret hx hb hr (fun t ht hW => ⟨⟨(), rfl, trivial, by rw [ht]; exact hP, by rw [hAe]; exact hD⟩, by rw [hAe]; exact hS.F ht⟩) hS.2.2 dX10_removeFrom_27
      · have c6n : j < (u - 1) := ft_nleN (by omega) (by omega) c6
        refine lv_aload_n hx hb dX10_removeFrom_9 rfl (lv_at hl 0 rfl) ?_
        refine lv_iload_n hx hb dX10_removeFrom_10 rfl (lv_at hl 3 rfl) ?_
        refine lv_aload_n hx hb dX10_removeFrom_11 rfl (lv_at hl 0 rfl) ?_
        refine lv_iload_n hx hb dX10_removeFrom_12 rfl (lv_at hl 3 rfl) ?_
        refine lv_iconst (v := 1) hx hb dX10_removeFrom_13 (by decide) ?_
        refine lv_iadd hx hb dX10_removeFrom_14 ?_
        refine ft_top (y := nI (j + 1)) (ft_addN j 1) ?_
        refine ft_csi (r := ftAt n g2_row (nI (j + 1))) (va_runS (As := [.ref row, .int (nI (j + 1))]) (rest := [.int (nI j), .ref row]) ⟨hx, hb, hml, hown, hts⟩ (c_X10_at l D cI cS row n g2_row (nI (j + 1)) hn) (va_cwS 2 hts gX10_removeFrom_X10_at rfl rfl rfl (by decide +kernel) ⟨Nat.le_of_ble_eq_true rfl, Nat.le_of_ble_eq_true rfl⟩) (ft_preRO hP hKK [0] rfl) rfl rfl hl.1 rfl (lv_room (Nat.le_of_ble_eq_true rfl)) dX10_removeFrom_15 ⟨Nat.le_of_ble_eq_true rfl, Nat.le_of_ble_eq_true rfl⟩) ?_
        refine ft_top (y := g2_row (j + 1)) (ftAt_N (by omega) (by omega)) ?_
        refine ft_cv (wc := [(row, .inl (cI, n, .inl g2_row))]) (wr := []) (w1 := [(row, .inl (cI, n, .inl (ftPut n g2_row (nI j) (g2_row (j + 1)))))]) (ws1 := [(row, .inl (cI, n, .inl (ftPut n g2_row (nI j) (g2_row (j + 1)))))]) (va_runS (As := [.ref row, .int (nI j), .int (g2_row (j + 1))]) (rest := []) ⟨hx, hb, hml, hown, hts⟩ (c_X10_put l D cI cS H.size row n g2_row (nI j) (g2_row (j + 1)) hn) (va_cwS 3 hts gX10_removeFrom_X10_put rfl rfl rfl (by decide +kernel) ⟨Nat.le_of_ble_eq_true rfl, Nat.le_of_ble_eq_true rfl⟩) (ft_preRW hP hD hKK [0] rfl rfl rfl) rfl rfl hl.1 rfl (lv_room (Nat.le_of_ble_eq_true rfl)) dX10_removeFrom_18 ⟨Nat.le_of_ble_eq_true rfl, Nat.le_of_ble_eq_true rfl⟩) hP hD hS hA [0] [] [0] rfl rfl (by decide) (by decide) (by decide) rfl rfl (fun H locs hP hD hS => ?_)
        rw [ftPut_N (k := j) (by omega) (by omega)] at hP hD
        have hP : va_P D vwCl [(row, .inl (cI, n, .inl (upd g2_row j (g2_row (j + 1)))))] H := hP
        have hD : va_D A [(row, .inl (cI, n, .inl (upd g2_row j (g2_row (j + 1)))))] := hD
        refine lv_iinc (v := nI (j + 1)) (lv' := [(3, .int (nI (j + 1))), (0, .ref row), (1, .int (nI u)), (2, .int (nI k))]) hx hb dX10_removeFrom_21 hl (k := 3) rfl (ft_inc j) (by decide) rfl (fun ls hl => ?_)
        refine lv_goto (tgt := 2) hx hb dX10_removeFrom_24 (by decide) ?_
        exact ih2 (j + 1) (nI (j + 1)) (upd g2_row j (g2_row (j + 1))) (by omega) (by omega) (by omega) (by first | rfl | assumption) (by rw [eg2_row]; exact ftRemG_s hkj) _ _ hP hD hS ls (lv_sub hl [1, 2, 3, 0] rfl)
  exact lp2 _ k (nI k) f (Nat.lt_succ_self _) (by omega) (by omega) (by rfl) (by exact ftRemG_0 f k) _ _ hP hD hS ls (lv_sub hl [1, 2, 3, 0] rfl)
set_option maxHeartbeats 4000000 in
set_option maxRecDepth 100000 in
theorem c_X10_sum (l : Launch) (D : va_G) (cI cS : ClassId) (row n : Nat) (f : Nat → Int32) (u : Nat) (hn : n < 2 ^ 31) (hun : u ≤ n) : Met l yX10_sum wsX10_sum ({ frames := 1, cells := 0, slots := 0, locals := 21 }) (ftRO D cI cS [.ref row, .int (nI u)] [(row, .inl (cI, n, .inl f))]) (vp_Si (fun o9 => o9 = ftSum f u)) 0 0 (fun _ => False) := by
  refine Met.ofW (cc := cX10_sum) (maxL := 4) (ret := (some .int)) (by decide) rfl ?_
  intro p e s m args below meth c s₁ B hml hv
  obtain ⟨rfl, hP, hKK⟩ := hv
  have hK := hKK.1
  have hx := B.exec
  have hb := B.bytes
  have hr := B.returns
  have hts := atoms_spec (ws := wsX10_sum) B.pre
  have hown : s.vm.findClass RX10 = some m.cls := findClass_of_methodNamed B.named
  have hlocks := B.notSynchronized
  have hP : va_P D vwCl [(row, .inl (cI, n, .inl f))] s.heap := hP
  have hl := lv_entry ([.ref row, .int (nI u)]) (n := 4) (Nat.le_of_ble_eq_true rfl)
  rw [lg_entry_eq]
  generalize (lg_sl ([.ref row, .int (nI u)]) ++ List.replicate (4 - (lg_sl ([.ref row, .int (nI u)])).length) Slot.unset).toArray = ls at hl ⊢
  have hl : lv_has ls 4 [(0, .ref row), (1, .int (nI u))] := hl
  refine lv_iconst (v := 0) hx hb dX10_sum_0 (by decide) ?_
  refine lv_istore_n (lv' := [(2, .int 0), (0, .ref row), (1, .int (nI u))]) hx hb dX10_sum_1 rfl hl (by decide) rfl (fun ls hl => ?_)
  refine lv_iconst (v := 0) hx hb dX10_sum_2 (by decide) ?_
  refine lv_istore_n (lv' := [(3, .int 0), (2, .int 0), (0, .ref row), (1, .int (nI u))]) hx hb dX10_sum_3 rfl hl (by decide) rfl (fun ls hl => ?_)
  have lp4 : ∀ (n4 : Nat) (i : Nat) (x4_2 : Int32) (x4_3 : Int32), u - i < n4 → (i ≤ u) → x4_2 = ftSum f i → x4_3 = nI i → ∀ ls : Array Slot, lv_has ls 4 [(0, .ref row), (1, .int (nI u)), (2, .int x4_2), (3, .int x4_3)] → W p l e (headSpec wsX10_sum { frames := 1, cells := 0, slots := 0, locals := 21 }).room s m ([.ref row, .int (nI u)] : List Value).toArray below meth c s.heap [] 0 0 (MQ below (vp_Si (fun o9 => o9 = ftSum f u)) ([.ref row, .int (nI u)] : List Value).toArray s 0 0 (fun _ => False)) (F0 m 4 ls []) := by
    intro n4
    induction n4 with
    | zero =>
      intro i x4_2 x4_3  hm4
      exact absurd hm4 (Nat.not_lt_zero _)
    | succ n4 ih4 =>
      intro i x4_2 x4_3  hm4 hiu ex4_2 ex4_3  ls hl
      subst ex4_3
      refine lv_iload_n hx hb dX10_sum_4 rfl (lv_at hl 3 rfl) ?_
      refine lv_iload_n hx hb dX10_sum_5 rfl (lv_at hl 1 rfl) ?_
      refine lv_icmp_ge (tgt := 23) hx hb dX10_sum_6 (by decide) (fun c6 => ?_) (fun c6 => ?_)
      · have c6n : u ≤ i := ft_leN (by omega) (by omega) c6
        refine lv_iload_n hx hb dX10_sum_23 rfl (lv_at hl 2 rfl) ?_
        exact W.iret (v := x4_2) hx hb hr (fun t ht hW => ⟨x4_2, rfl, (by show (x4_2 : Int32) = ftSum f u; (obtain rfl : i = u := by omega); exact ex4_2), ht⟩) (fun _ h9 => absurd h9 List.not_mem_nil) dX10_sum_24
      · have c6n : i < u := ft_nleN (by omega) (by omega) c6
        refine lv_iload_n hx hb dX10_sum_9 rfl (lv_at hl 2 rfl) ?_
        refine lv_aload_n hx hb dX10_sum_10 rfl (lv_at hl 0 rfl) ?_
        refine lv_iload_n hx hb dX10_sum_11 rfl (lv_at hl 3 rfl) ?_
        refine ft_csi (r := ftAt n f (nI i)) (va_runS (As := [.ref row, .int (nI i)]) (rest := [.int x4_2]) ⟨hx, hb, hml, hown, hts⟩ (c_X10_at l D cI cS row n f (nI i) hn) (va_cwS 2 hts gX10_sum_X10_at rfl rfl rfl (by decide +kernel) ⟨Nat.le_of_ble_eq_true rfl, Nat.le_of_ble_eq_true rfl⟩) (ft_preRO hP hKK [0] rfl) rfl rfl hl.1 rfl (lv_room (Nat.le_of_ble_eq_true rfl)) dX10_sum_12 ⟨Nat.le_of_ble_eq_true rfl, Nat.le_of_ble_eq_true rfl⟩) ?_
        refine ft_top (y := f i) (ftAt_N (by omega) (by omega)) ?_
        refine lv_iadd hx hb dX10_sum_15 ?_
        refine lv_istore_n (lv' := [(2, .int (x4_2 + (f i))), (0, .ref row), (1, .int (nI u)), (3, .int (nI i))]) hx hb dX10_sum_16 rfl hl (by decide) rfl (fun ls hl => ?_)
        refine lv_iinc (v := nI (i + 1)) (lv' := [(3, .int (nI (i + 1))), (2, .int (x4_2 + (f i))), (0, .ref row), (1, .int (nI u))]) hx hb dX10_sum_17 hl (k := 3) rfl (ft_inc i) (by decide) rfl (fun ls hl => ?_)
        refine lv_goto (tgt := 4) hx hb dX10_sum_20 (by decide) ?_
        exact ih4 (i + 1) (x4_2 + (f i)) (nI (i + 1))  (by omega) (by omega) (by rw [ex4_2]; rfl) (by first | rfl | assumption)  ls (lv_sub hl [2, 3, 1, 0] rfl)
  exact lp4 _ 0 0 0  (Nat.lt_succ_self _) (by omega) (by rfl) (by rfl) ls (lv_sub hl [2, 3, 1, 0] rfl)
