section
set_option maxHeartbeats 4000000 in
set_option maxRecDepth 100000 in
theorem c_X10_isWithin (l : Launch) (D : va_G) (cI cS : ClassId) (v lo hi : Int32)  : Met l yX10_isWithin wsX10_isWithin ({ frames := 0, cells := 0, slots := 0, locals := 0 }) (ftRO D cI cS [.int v, .int lo, .int hi] []) (vp_Si (fun o9 => o9 = ftB (lo ≤ v ∧ v ≤ hi))) 0 0 (fun _ => False) := by
  refine Met.ofW (cc := cX10_isWithin) (maxL := 3) (ret := (some .boolean)) (by decide) rfl ?_
  intro p e s m args below meth c s₁ B hml hv
  obtain ⟨rfl, hP, hKK⟩ := hv
  have hK := hKK.1
  have hx := B.exec
  have hb := B.bytes
  have hr := B.returns
  have hts := atoms_spec (ws := wsX10_isWithin) B.pre
  have hown : s.vm.findClass RX10 = some m.cls := findClass_of_methodNamed B.named
  have hlocks := B.notSynchronized
  have hP : va_P D vwCl [] s.heap := hP
  have hl := lv_entry ([.int v, .int lo, .int hi]) (n := 3) (Nat.le_of_ble_eq_true rfl)
  rw [lg_entry_eq]
  generalize (lg_sl ([.int v, .int lo, .int hi]) ++ List.replicate (3 - (lg_sl ([.int v, .int lo, .int hi])).length) Slot.unset).toArray = ls at hl ⊢
  have hl : lv_has ls 3 [(0, .int v), (1, .int lo), (2, .int hi)] := hl
  refine lv_iload_n hx hb dX10_isWithin_0 rfl (lv_at hl 0 rfl) ?_
  refine lv_iload_n hx hb dX10_isWithin_1 rfl (lv_at hl 1 rfl) ?_
  refine lv_icmp_lt (tgt := 14) hx hb dX10_isWithin_2 (by decide) (fun c2 => ?_) (fun c2 => ?_)
  · refine lv_iconst (v := 0) hx hb dX10_isWithin_14 (by decide) ?_
    exact W.zret (v := 0) hx hb hr (by rfl) (fun t ht hW => ⟨0, rfl, (by show (0 : Int32) = ftB (lo ≤ v ∧ v ≤ hi); first | exact (ftB_t ⟨Int32.not_lt.mp c2, Int32.not_lt.mp c7⟩).symm | exact (ftB_f (fun q => absurd c2 (Int32.not_lt.mpr q.1))).symm | exact (ftB_f (fun q => absurd c7 (Int32.not_lt.mpr q.2))).symm), ht⟩) (fun _ h9 => absurd h9 List.not_mem_nil) dX10_isWithin_15
  · refine lv_iload_n hx hb dX10_isWithin_5 rfl (lv_at hl 0 rfl) ?_
    refine lv_iload_n hx hb dX10_isWithin_6 rfl (lv_at hl 2 rfl) ?_
    refine lv_icmp_gt (tgt := 14) hx hb dX10_isWithin_7 (by decide) (fun c7 => ?_) (fun c7 => ?_)
    · refine lv_iconst (v := 0) hx hb dX10_isWithin_14 (by decide) ?_
      exact W.zret (v := 0) hx hb hr (by rfl) (fun t ht hW => ⟨0, rfl, (by show (0 : Int32) = ftB (lo ≤ v ∧ v ≤ hi); first | exact (ftB_t ⟨Int32.not_lt.mp c2, Int32.not_lt.mp c7⟩).symm | exact (ftB_f (fun q => absurd c2 (Int32.not_lt.mpr q.1))).symm | exact (ftB_f (fun q => absurd c7 (Int32.not_lt.mpr q.2))).symm), ht⟩) (fun _ h9 => absurd h9 List.not_mem_nil) dX10_isWithin_15
    · refine lv_iconst (v := 1) hx hb dX10_isWithin_10 (by decide) ?_
      refine lv_goto (tgt := 15) hx hb dX10_isWithin_11 (by decide) ?_
      exact W.zret (v := 1) hx hb hr (by rfl) (fun t ht hW => ⟨1, rfl, (by show (1 : Int32) = ftB (lo ≤ v ∧ v ≤ hi); first | exact (ftB_t ⟨Int32.not_lt.mp c2, Int32.not_lt.mp c7⟩).symm | exact (ftB_f (fun q => absurd c2 (Int32.not_lt.mpr q.1))).symm | exact (ftB_f (fun q => absurd c7 (Int32.not_lt.mpr q.2))).symm), ht⟩) (fun _ h9 => absurd h9 List.not_mem_nil) dX10_isWithin_15
set_option maxHeartbeats 4000000 in
set_option maxRecDepth 100000 in
theorem c_X10_at (l : Launch) (D : va_G) (cI cS : ClassId) (row n : Nat) (f : Nat → Int32) (i : Int32) (hn : n < 2 ^ 31) : Met l yX10_at wsX10_at ({ frames := 0, cells := 0, slots := 0, locals := 0 }) (ftRO D cI cS [.ref row, .int i] [(row, .inl (cI, n, .inl f))]) (vp_Si (fun o9 => o9 = ftAt n f i)) 0 0 (fun _ => False) := by
  refine Met.ofW (cc := cX10_at) (maxL := 2) (ret := (some .int)) (by decide) rfl ?_
  intro p e s m args below meth c s₁ B hml hv
  obtain ⟨rfl, hP, hKK⟩ := hv
  have hK := hKK.1
  have hx := B.exec
  have hb := B.bytes
  have hr := B.returns
  have hts := atoms_spec (ws := wsX10_at) B.pre
  have hown : s.vm.findClass RX10 = some m.cls := findClass_of_methodNamed B.named
  have hlocks := B.notSynchronized
  have hP : va_P D vwCl [(row, .inl (cI, n, .inl f))] s.heap := hP
  have hl := lv_entry ([.ref row, .int i]) (n := 2) (Nat.le_of_ble_eq_true rfl)
  rw [lg_entry_eq]
  generalize (lg_sl ([.ref row, .int i]) ++ List.replicate (2 - (lg_sl ([.ref row, .int i])).length) Slot.unset).toArray = ls at hl ⊢
  have hl : lv_has ls 2 [(0, .ref row), (1, .int i)] := hl
  refine lv_aload_n hx hb dX10_at_0 rfl (lv_at hl 0 rfl) ?_
  refine lv_ifnull hx hb dX10_at_1 ?_
  refine lv_iload_n hx hb dX10_at_4 rfl (lv_at hl 1 rfl) ?_
  refine lv_if_lt (tgt := 20) hx hb dX10_at_5 (by decide) (fun c5 => ?_) (fun c5 => ?_)
  · refine lv_iconst (v := 0) hx hb dX10_at_20 (by decide) ?_
    exact W.iret (v := 0) hx hb hr (fun t ht hW => ⟨0, rfl, (by show (0 : Int32) = ftAt n f i; first | exact (ftAt_in (ft_in hn c5 c11)).symm | exact (ftAt_out (ft_out hn c5 c11)).symm | exact (ftAt_out (fun q => q (Or.inl c5))).symm), ht⟩) (fun _ h9 => absurd h9 List.not_mem_nil) dX10_at_21
  · refine lv_iload_n hx hb dX10_at_8 rfl (lv_at hl 1 rfl) ?_
    refine lv_aload_n hx hb dX10_at_9 rfl (lv_at hl 0 rfl) ?_
    refine va_alen (v := Int32.ofNat n) hx hb hK hP 0 0 rfl rfl rfl dX10_at_10 ?_
    refine lv_icmp_ge (tgt := 20) hx hb dX10_at_11 (by decide) (fun c11 => ?_) (fun c11 => ?_)
    · refine lv_iconst (v := 0) hx hb dX10_at_20 (by decide) ?_
      exact W.iret (v := 0) hx hb hr (fun t ht hW => ⟨0, rfl, (by show (0 : Int32) = ftAt n f i; first | exact (ftAt_in (ft_in hn c5 c11)).symm | exact (ftAt_out (ft_out hn c5 c11)).symm | exact (ftAt_out (fun q => q (Or.inl c5))).symm), ht⟩) (fun _ h9 => absurd h9 List.not_mem_nil) dX10_at_21
    · refine lv_aload_n hx hb dX10_at_14 rfl (lv_at hl 0 rfl) ?_
      refine lv_iload_n hx hb dX10_at_15 rfl (lv_at hl 1 rfl) ?_
      refine va_iald hx hb hK hP 0 0 rfl rfl (ft_in hn c5 c11) dX10_at_16 ?_
      refine lv_goto (tgt := 21) hx hb dX10_at_17 (by decide) ?_
      exact W.iret (v := f i.toNatClampNeg) hx hb hr (fun t ht hW => ⟨f i.toNatClampNeg, rfl, (by show (f i.toNatClampNeg : Int32) = ftAt n f i; first | exact (ftAt_in (ft_in hn c5 c11)).symm | exact (ftAt_out (ft_out hn c5 c11)).symm | exact (ftAt_out (fun q => q (Or.inl c5))).symm), ht⟩) (fun _ h9 => absurd h9 List.not_mem_nil) dX10_at_21
set_option maxHeartbeats 4000000 in
set_option maxRecDepth 100000 in
theorem c_X10_put (l : Launch) (D : va_G) (cI cS : ClassId) (sz : Nat) (row n : Nat) (f : Nat → Int32) (i x : Int32) (hn : n < 2 ^ 31) : Met l yX10_put wsX10_put ({ frames := 0, cells := 0, slots := 0, locals := 0 }) (ftRW D cI cS [.ref row, .int i, .int x] [(row, .inl (cI, n, .inl f))] sz) (ftQv D [(row, .inl (cI, n, .inl f))] [(row, .inl (cI, n, .inl (ftPut n f i x)))] sz) 0 0 (va_A [(row, .inl (cI, n, .inl f))] sz) := by
  refine Met.ofW (cc := cX10_put) (maxL := 3) (ret := none) (by decide) rfl ?_
  intro p e s m args below meth c s₁ B hml hv
  obtain ⟨rfl, hsz, hP, hKK, hD0⟩ := hv
  have hK := hKK.1
  have hx := B.exec
  have hb := B.bytes
  have hr := B.returns
  have hts := atoms_spec (ws := wsX10_put) B.pre
  have hown : s.vm.findClass RX10 = some m.cls := findClass_of_methodNamed B.named
  have hlocks := B.notSynchronized
  subst hsz
  have hD := hD0.self (sz := s.heap.size)
  generalize hAe : va_A [(row, .inl (cI, n, .inl f))] s.heap.size = A at hD ⊢
  have hA : ∀ q : Nat, s.heap.size ≤ q → A q := fun q h => by rw [← hAe]; exact Or.inr h
  have hS : va_S A s.heap s.heap [] := va_S.rf
  have hD : va_D A [(row, .inl (cI, n, .inl f))] := hD
  have hP : va_P D vwCl [(row, .inl (cI, n, .inl f))] s.heap := hP
  have hl := lv_entry ([.ref row, .int i, .int x]) (n := 3) (Nat.le_of_ble_eq_true rfl)
  rw [lg_entry_eq]
  generalize (lg_sl ([.ref row, .int i, .int x]) ++ List.replicate (3 - (lg_sl ([.ref row, .int i, .int x])).length) Slot.unset).toArray = ls at hl ⊢
  have hl : lv_has ls 3 [(0, .ref row), (1, .int i), (2, .int x)] := hl
  refine lv_aload_n hx hb dX10_put_0 rfl (lv_at hl 0 rfl) ?_
  refine lv_ifnull hx hb dX10_put_1 ?_
  refine lv_iload_n hx hb dX10_put_4 rfl (lv_at hl 1 rfl) ?_
  refine lv_if_lt (tgt := 18) hx hb dX10_put_5 (by decide) (fun c5 => ?_) (fun c5 => ?_)
  · have hw9 : ([(row, .inl (cI, n, .inl f))] : va_W) = [(row, .inl (cI, n, .inl (ftPut n f i x)))] := by first | rw [ftPut_in (ft_in hn c5 c11)] | rw [ftPut_out (ft_out hn c5 c11)] | rw [ftPut_out (fun q => q (Or.inl c5))]
    rw [hw9] at hP hD
    exact W.vret hx hb hr (fun t ht hW => ⟨⟨(), rfl, trivial, by rw [ht]; exact hP, by rw [hAe]; exact hD⟩, by rw [hAe]; exact hS.F ht⟩) hS.2.2 dX10_put_18
  · refine lv_iload_n hx hb dX10_put_8 rfl (lv_at hl 1 rfl) ?_
    refine lv_aload_n hx hb dX10_put_9 rfl (lv_at hl 0 rfl) ?_
    refine va_alen (v := Int32.ofNat n) hx hb hK hP 0 0 rfl rfl rfl dX10_put_10 ?_
    refine lv_icmp_ge (tgt := 18) hx hb dX10_put_11 (by decide) (fun c11 => ?_) (fun c11 => ?_)
    · have hw9 : ([(row, .inl (cI, n, .inl f))] : va_W) = [(row, .inl (cI, n, .inl (ftPut n f i x)))] := by first | rw [ftPut_in (ft_in hn c5 c11)] | rw [ftPut_out (ft_out hn c5 c11)] | rw [ftPut_out (fun q => q (Or.inl c5))]
      rw [hw9] at hP hD
      exact W.vret hx hb hr (fun t ht hW => ⟨⟨(), rfl, trivial, by rw [ht]; exact hP, by rw [hAe]; exact hD⟩, by rw [hAe]; exact hS.F ht⟩) hS.2.2 dX10_put_18
    · refine lv_aload_n hx hb dX10_put_14 rfl (lv_at hl 0 rfl) ?_
      refine lv_iload_n hx hb dX10_put_15 rfl (lv_at hl 1 rfl) ?_
      refine lv_iload_n hx hb dX10_put_16 rfl (lv_at hl 2 rfl) ?_
      refine va_iast hx hb hK hP hD hS 0 0 rfl rfl (ft_in hn c5 c11) dX10_put_17 (fun H locs hP hD hS => ?_)
      have hP : va_P D vwCl [(row, .inl (cI, n, .inl (upd f i.toNatClampNeg x)))] H := hP
      have hD : va_D A [(row, .inl (cI, n, .inl (upd f i.toNatClampNeg x)))] := hD
      have hw9 : ([(row, .inl (cI, n, .inl (upd f i.toNatClampNeg x)))] : va_W) = [(row, .inl (cI, n, .inl (ftPut n f i x)))] := by first | rw [ftPut_in (ft_in hn c5 c11)] | rw [ftPut_out (ft_out hn c5 c11)] | rw [ftPut_out (fun q => q (Or.inl c5))]
      rw [hw9] at hP hD
      exact W.vret hx hb hr (fun t ht hW => ⟨⟨(), rfl, trivial, by rw [ht]; exact hP, by rw [hAe]; exact hD⟩, by rw [hAe]; exact hS.F ht⟩) hS.2.2 dX10_put_18
set_option maxHeartbeats 4000000 in
set_option maxRecDepth 100000 in
theorem c_X10_orNotFound (l : Launch) (D : va_G) (cI cS : ClassId) (v : Int32)  : Met l yX10_orNotFound wsX10_orNotFound ({ frames := 0, cells := 0, slots := 0, locals := 0 }) (ftRO D cI cS [.int v] []) (vp_Si (fun o9 => o9 = if v = -1 then -1000004 else v)) 0 0 (fun _ => False) := by
  refine Met.ofW (cc := cX10_orNotFound) (maxL := 1) (ret := (some .int)) (by decide) rfl ?_
  intro p e s m args below meth c s₁ B hml hv
  obtain ⟨rfl, hP, hKK⟩ := hv
  have hK := hKK.1
  have hx := B.exec
  have hb := B.bytes
  have hr := B.returns
  have hts := atoms_spec (ws := wsX10_orNotFound) B.pre
  have hown : s.vm.findClass RX10 = some m.cls := findClass_of_methodNamed B.named
  have hlocks := B.notSynchronized
  have hP : va_P D vwCl [] s.heap := hP
  have hl := lv_entry ([.int v]) (n := 1) (Nat.le_of_ble_eq_true rfl)
  rw [lg_entry_eq]
  generalize (lg_sl ([.int v]) ++ List.replicate (1 - (lg_sl ([.int v])).length) Slot.unset).toArray = ls at hl ⊢
  have hl : lv_has ls 1 [(0, .int v)] := hl
  refine lv_iload_n hx hb dX10_orNotFound_0 rfl (lv_at hl 0 rfl) ?_
  refine lv_iconst (v := (-1)) hx hb dX10_orNotFound_1 (by decide) ?_
  refine lv_icmp_ne (tgt := 10) hx hb dX10_orNotFound_2 (by decide) (fun c2 => ?_) (fun c2 => ?_)
  · refine lv_iload_n hx hb dX10_orNotFound_10 rfl (lv_at hl 0 rfl) ?_
    exact W.iret (v := v) hx hb hr (fun t ht hW => ⟨v, rfl, (by show (v : Int32) = if v = -1 then -1000004 else v; first | exact (if_pos c2).symm | exact (if_neg c2).symm), ht⟩) (fun _ h9 => absurd h9 List.not_mem_nil) dX10_orNotFound_11
  · refine lv_ldc (v := (-1000004)) hx hb hown (hts (.constant RX10 104 (-1000004)) (by decide +kernel)) dX10_orNotFound_5 ?_
    refine lv_goto (tgt := 11) hx hb dX10_orNotFound_7 (by decide) ?_
    exact W.iret (v := (-1000004)) hx hb hr (fun t ht hW => ⟨(-1000004), rfl, (by show ((-1000004) : Int32) = if v = -1 then -1000004 else v; first | exact (if_pos c2).symm | exact (if_neg c2).symm), ht⟩) (fun _ h9 => absurd h9 List.not_mem_nil) dX10_orNotFound_11
set_option maxHeartbeats 4000000 in
set_option maxRecDepth 100000 in
theorem c_X10_quotient (l : Launch) (D : va_G) (cI cS : ClassId) (x y : Int32)  : Met l yX10_quotient wsX10_quotient ({ frames := 0, cells := 0, slots := 0, locals := 0 }) (ftRO D cI cS [.int x, .int y] []) (vp_Si (fun o9 => o9 = ftQuot x y)) 0 0 (fun _ => False) := by
  refine Met.ofW (cc := cX10_quotient) (maxL := 2) (ret := (some .int)) (by decide) rfl ?_
  intro p e s m args below meth c s₁ B hml hv
  obtain ⟨rfl, hP, hKK⟩ := hv
  have hK := hKK.1
  have hx := B.exec
  have hb := B.bytes
  have hr := B.returns
  have hts := atoms_spec (ws := wsX10_quotient) B.pre
  have hown : s.vm.findClass RX10 = some m.cls := findClass_of_methodNamed B.named
  have hlocks := B.notSynchronized
  have hP : va_P D vwCl [] s.heap := hP
  have hl := lv_entry ([.int x, .int y]) (n := 2) (Nat.le_of_ble_eq_true rfl)
  rw [lg_entry_eq]
  generalize (lg_sl ([.int x, .int y]) ++ List.replicate (2 - (lg_sl ([.int x, .int y])).length) Slot.unset).toArray = ls at hl ⊢
  have hl : lv_has ls 2 [(0, .int x), (1, .int y)] := hl
  refine lv_iload_n hx hb dX10_quotient_0 rfl (lv_at hl 1 rfl) ?_
  refine lv_if_ne (tgt := 8) hx hb dX10_quotient_1 (by decide) (fun c1 => ?_) (fun c1 => ?_)
  · refine lv_iload_n hx hb dX10_quotient_8 rfl (lv_at hl 0 rfl) ?_
    refine lv_iload_n hx hb dX10_quotient_9 rfl (lv_at hl 1 rfl) ?_
    refine lv_idiv hx hb dX10_quotient_10 c1 ?_
    exact W.iret (v := x / y) hx hb hr (fun t ht hW => ⟨x / y, rfl, (by show (x / y : Int32) = ftQuot x y; first | (rw [ftQuot, if_pos c1]) | (rw [ftQuot, if_neg c1])), ht⟩) (fun _ h9 => absurd h9 List.not_mem_nil) dX10_quotient_11
  · refine lv_iconst (v := 0) hx hb dX10_quotient_4 (by decide) ?_
    refine lv_goto (tgt := 11) hx hb dX10_quotient_5 (by decide) ?_
    exact W.iret (v := 0) hx hb hr (fun t ht hW => ⟨0, rfl, (by show (0 : Int32) = ftQuot x y; first | (rw [ftQuot, if_pos c1]) | (rw [ftQuot, if_neg c1])), ht⟩) (fun _ h9 => absurd h9 List.not_mem_nil) dX10_quotient_11
end
section
/-! rows: a place made, a place taken away, a sum -/
def ftIns (f : Nat → Int32) (u k : Nat) (x : Int32) : Nat → Int32 := fun t => if t = k then x else if k < t ∧ t ≤ u then f (t - 1) else f t
def ftInsG (f : Nat → Int32) (u j : Nat) : Nat → Int32 := fun t => if j < t ∧ t ≤ u then f (t - 1) else f t
theorem ftInsG_0 (f : Nat → Int32) (u : Nat) : f = ftInsG f u u := funext fun t => (if_neg (by omega)).symm
theorem ftInsG_s {f : Nat → Int32} {u j : Nat} (h : 0 < j) (hj : j ≤ u) : upd (ftInsG f u j) j (ftInsG f u j (j - 1)) = ftInsG f u (j - 1) := by
  funext t
  unfold upd ftInsG
  rcases Nat.lt_trichotomy t j with q | q | q
  · rw [if_neg (by omega), if_neg (by omega), if_neg (by omega)]
  · subst q; rw [if_pos rfl, if_neg (by omega), if_pos (by omega)]
  · rw [if_neg (by omega)]
    by_cases r : t ≤ u
    · rw [if_pos (by omega), if_pos (by omega)]
    · rw [if_neg (by omega), if_neg (by omega)]
theorem ftInsG_e {f : Nat → Int32} {u k : Nat} {x : Int32} : upd (ftInsG f u k) k x = ftIns f u k x := rfl
def ftRem (f : Nat → Int32) (u k : Nat) : Nat → Int32 := fun t => if k ≤ t ∧ t + 1 < u then f (t + 1) else f t
def ftRemG (f : Nat → Int32) (k j : Nat) : Nat → Int32 := fun t => if k ≤ t ∧ t < j then f (t + 1) else f t
theorem ftRemG_0 (f : Nat → Int32) (k : Nat) : f = ftRemG f k k := funext fun t => (if_neg (by omega)).symm
theorem ftRemG_s {f : Nat → Int32} {k j : Nat} (hj : k ≤ j) : upd (ftRemG f k j) j (ftRemG f k j (j + 1)) = ftRemG f k (j + 1) := by
  funext t
  unfold upd ftRemG
  rcases Nat.lt_trichotomy t j with q | q | q
  · rw [if_neg (by omega)]
    by_cases r : k ≤ t
    · rw [if_pos (by omega), if_pos (by omega)]
    · rw [if_neg (by omega), if_neg (by omega)]
  · subst q; rw [if_pos rfl, if_neg (by omega), if_pos (by omega)]
  · rw [if_neg (by omega), if_neg (by omega), if_neg (by omega)]
theorem ftRemG_e {f : Nat → Int32} {u k j : Nat} (h1 : u ≤ j + 1) (h2 : j + 1 ≤ u) : ftRemG f k j = ftRem f u k := by
  funext t
  unfold ftRemG ftRem
  by_cases q : k ≤ t ∧ t < j
  · rw [if_pos q, if_pos (by omega)]
  · rw [if_neg q, if_neg (by omega)]
def ftSum (f : Nat → Int32) : Nat → Int32
  | 0 => 0
  | n + 1 => ftSum f n + f n
set_option maxHeartbeats 4000000 in
set_option maxRecDepth 100000 in
theorem c_X10_insertInto (l : Launch) (D : va_G) (cI cS : ClassId) (sz : Nat) (row n : Nat) (f : Nat → Int32) (u k : Nat) (x : Int32) (hn : n < 2 ^ 31) (hku : k ≤ u) (hun : u < n) : Met l yX10_insertInto wsX10_insertInto ({ frames := 1, cells := 0, slots := 0, locals := 22 }) (ftRW D cI cS [.ref row, .int (nI u), .int (nI k), .int x] [(row, .inl (cI, n, .inl f))] sz) (ftQv D [(row, .inl (cI, n, .inl f))] [(row, .inl (cI, n, .inl (ftIns f u k x)))] sz) 0 0 (va_A [(row, .inl (cI, n, .inl f))] sz) := by
  refine Met.ofW (cc := cX10_insertInto) (maxL := 5) (ret := none) (by decide) rfl ?_
  intro p e s m args below meth c s₁ B hml hv
  obtain ⟨rfl, hsz, hP, hKK, hD0⟩ := hv
  have hK := hKK.1
  have hx := B.exec
  have hb := B.bytes
  have hr := B.returns
  have hts := atoms_spec (ws := wsX10_insertInto) B.pre
  have hown : s.vm.findClass RX10 = some m.cls := findClass_of_methodNamed B.named
  have hlocks := B.notSynchronized
  subst hsz
  have hD := hD0.self (sz := s.heap.size)
  generalize hAe : va_A [(row, .inl (cI, n, .inl f))] s.heap.size = A at hD ⊢
  have hA : ∀ q : Nat, s.heap.size ≤ q → A q := fun q h => by rw [← hAe]; exact Or.inr h
  have hS : va_S A s.heap s.heap [] := va_S.rf
  have hD : va_D A [(row, .inl (cI, n, .inl f))] := hD
  have hP : va_P D vwCl [(row, .inl (cI, n, .inl f))] s.heap := hP
  have hl := lv_entry ([.ref row, .int (nI u), .int (nI k), .int x]) (n := 5) (Nat.le_of_ble_eq_true rfl)
  rw [lg_entry_eq]
  generalize (lg_sl ([.ref row, .int (nI u), .int (nI k), .int x]) ++ List.replicate (5 - (lg_sl ([.ref row, .int (nI u), .int (nI k), .int x])).length) Slot.unset).toArray = ls at hl ⊢
  have hl : lv_has ls 5 [(0, .ref row), (1, .int (nI u)), (2, .int (nI k)), (3, .int x)] := hl
  refine lv_iload_n hx hb dX10_insertInto_0 rfl (lv_at hl 1 rfl) ?_
  refine lv_istore (lv' := [(4, .int (nI u)), (0, .ref row), (1, .int (nI u)), (2, .int (nI k)), (3, .int x)]) hx hb dX10_insertInto_1 hl (by decide) rfl (fun ls hl => ?_)
  have lp3 : ∀ (n3 : Nat) (j : Nat) (x3_4 : Int32) (g3_row : Nat → Int32), j < n3 → (k ≤ j) → (j ≤ u) → x3_4 = nI j → g3_row = ftInsG f u j → ∀ (H : Heap) (locs : List Loc), va_P D vwCl [(row, .inl (cI, n, .inl g3_row))] H → va_D A [(row, .inl (cI, n, .inl g3_row))] → va_S A s.heap H locs → ∀ ls : Array Slot, lv_has ls 5 [(0, .ref row), (1, .int (nI u)), (2, .int (nI k)), (3, .int x), (4, .int x3_4)] → W p l e (headSpec wsX10_insertInto { frames := 1, cells := 0, slots := 0, locals := 22 }).room s m ([.ref row, .int (nI u), .int (nI k), .int x] : List Value).toArray below meth c H locs 0 0 (MQ below (ftQv D [(row, .inl (cI, n, .inl f))] [(row, .inl (cI, n, .inl (ftIns f u k x)))] s.heap.size) ([.ref row, .int (nI u), .int (nI k), .int x] : List Value).toArray s 0 0 A) (F0 m 3 ls []) := by
    intro n3
    induction n3 with
    | zero =>
      intro j x3_4 g3_row hm3
      exact absurd hm3 (Nat.not_lt_zero _)
    | succ n3 ih3 =>
      intro j x3_4 g3_row hm3 hkj hju ex3_4 eg3_row H locs hP hD hS ls hl
      subst ex3_4
      refine lv_iload hx hb dX10_insertInto_3 (lv_at hl 4 rfl) ?_
      refine lv_iload_n hx hb dX10_insertInto_5 rfl (lv_at hl 2 rfl) ?_
      refine lv_icmp_le (tgt := 29) hx hb dX10_insertInto_6 (by decide) (fun c6 => ?_) (fun c6 => ?_)
      · have c6n : j ≤ k := ft_leN (by omega) (by omega) c6
        refine lv_aload_n hx hb dX10_insertInto_29 rfl (lv_at hl 0 rfl) ?_
        refine lv_iload_n hx hb dX10_insertInto_30 rfl (lv_at hl 2 rfl) ?_
        refine lv_iload_n hx hb dX10_insertInto_31 rfl (lv_at hl 3 rfl) ?_
        refine ft_cv (wc := [(row, .inl (cI, n, .inl g3_row))]) (wr := []) (w1 := [(row, .inl (cI, n, .inl (ftPut n g3_row (nI k) x)))]) (ws1 := [(row, .inl (cI, n, .inl (ftPut n g3_row (nI k) x)))]) (va_runS (As := [.ref row, .int (nI k), .int x]) (rest := []) ⟨hx, hb, hml, hown, hts⟩ (c_X10_put l D cI cS H.size row n g3_row (nI k) x hn) (va_cwS 3 hts gX10_insertInto_X10_put rfl rfl rfl (by decide +kernel) ⟨Nat.le_of_ble_eq_true rfl, Nat.le_of_ble_eq_true rfl⟩) (ft_preRW hP hD hKK [0] rfl rfl rfl) rfl rfl hl.1 rfl (lv_room (Nat.le_of_ble_eq_true rfl)) dX10_insertInto_32 ⟨Nat.le_of_ble_eq_true rfl, Nat.le_of_ble_eq_true rfl⟩) hP hD hS hA [0] [] [0] rfl rfl (by decide) (by decide) (by decide) rfl rfl (fun H locs hP hD hS => ?_)
        rw [ftPut_N (k := k) (by omega) (by omega)] at hP hD
        have hP : va_P D vwCl [(row, .inl (cI, n, .inl (upd g3_row k x)))] H := hP
        have hD : va_D A [(row, .inl (cI, n, .inl (upd g3_row k x)))] := hD
        have hw9 : ([(row, .inl (cI, n, .inl (upd g3_row k x)))] : va_W) = [(row, .inl (cI, n, .inl (ftIns f u k x)))] := by (obtain rfl : k = j := by omega); rw [eg3_row]; rfl
        rw [hw9] at hP hD
        exact W.vret hx hb hr (fun t ht hW => ⟨⟨(), rfl, trivial, by rw [ht]; exact hP, by rw [hAe]; exact hD⟩, by rw [hAe]; exact hS.F ht⟩) hS.2.2 dX10_insertInto_35
      · have c6n : k < j := ft_nleN (by omega) (by omega) c6
        refine lv_aload_n hx hb dX10_insertInto_9 rfl (lv_at hl 0 rfl) ?_
        refine lv_iload hx hb dX10_insertInto_10 (lv_at hl 4 rfl) ?_
        refine lv_aload_n hx hb dX10_insertInto_12 rfl (lv_at hl 0 rfl) ?_
        refine lv_iload hx hb dX10_insertInto_13 (lv_at hl 4 rfl) ?_
        refine lv_iconst (v := 1) hx hb dX10_insertInto_15 (by decide) ?_
        refine lv_isub hx hb dX10_insertInto_16 ?_
        refine ft_top (y := nI (j - 1)) (ft_subN (a := j) (b := 1) (by omega)) ?_
        refine ft_csi (r := ftAt n g3_row (nI (j - 1))) (va_runS (As := [.ref row, .int (nI (j - 1))]) (rest := [.int (nI j), .ref row]) ⟨hx, hb, hml, hown, hts⟩ (c_X10_at l D cI cS row n g3_row (nI (j - 1)) hn) (va_cwS 2 hts gX10_insertInto_X10_at rfl rfl rfl (by decide +kernel) ⟨Nat.le_of_ble_eq_true rfl, Nat.le_of_ble_eq_true rfl⟩) (ft_preRO hP hKK [0] rfl) rfl rfl hl.1 rfl (lv_room (Nat.le_of_ble_eq_true rfl)) dX10_insertInto_17 ⟨Nat.le_of_ble_eq_true rfl, Nat.le_of_ble_eq_true rfl⟩) ?_
        refine ft_top (y := g3_row (j - 1)) (ftAt_N (by omega) (by omega)) ?_
        refine ft_cv (wc := [(row, .inl (cI, n, .inl g3_row))]) (wr := []) (w1 := [(row, .inl (cI, n, .inl (ftPut n g3_row (nI j) (g3_row (j - 1)))))]) (ws1 := [(row, .inl (cI, n, .inl (ftPut n g3_row (nI j) (g3_row (j - 1)))))]) (va_runS (As := [.ref row, .int (nI j), .int (g3_row (j - 1))]) (rest := []) ⟨hx, hb, hml, hown, hts⟩ (c_X10_put l D cI cS H.size row n g3_row (nI j) (g3_row (j - 1)) hn) (va_cwS 3 hts gX10_insertInto_X10_put rfl rfl rfl (by decide +kernel) ⟨Nat.le_of_ble_eq_true rfl, Nat.le_of_ble_eq_true rfl⟩) (ft_preRW hP hD hKK [0] rfl rfl rfl) rfl rfl hl.1 rfl (lv_room (Nat.le_of_ble_eq_true rfl)) dX10_insertInto_20 ⟨Nat.le_of_ble_eq_true rfl, Nat.le_of_ble_eq_true rfl⟩) hP hD hS hA [0] [] [0] rfl rfl (by decide) (by decide) (by decide) rfl rfl (fun H locs hP hD hS => ?_)
        rw [ftPut_N (k := j) (by omega) (by omega)] at hP hD
        have hP : va_P D vwCl [(row, .inl (cI, n, .inl (upd g3_row j (g3_row (j - 1)))))] H := hP
        have hD : va_D A [(row, .inl (cI, n, .inl (upd g3_row j (g3_row (j - 1)))))] := hD
        refine lv_iinc (v := nI (j - 1)) (lv' := [(4, .int (nI (j - 1))), (0, .ref row), (1, .int (nI u)), (2, .int (nI k)), (3, .int x)]) hx hb dX10_insertInto_23 hl (k := 4) rfl (ft_dec (by omega)) (by decide) rfl (fun ls hl => ?_)
        refine lv_goto (tgt := 3) hx hb dX10_insertInto_26 (by decide) ?_
        exact ih3 (j - 1) (nI (j - 1)) (upd g3_row j (g3_row (j - 1))) (by omega) (by omega) (by omega) (by first | rfl | assumption) (by rw [eg3_row]; exact ftInsG_s (by omega) hju) _ _ hP hD hS ls (lv_sub hl [1, 2, 3, 4, 0] rfl)
  exact lp3 _ u (nI u) f (Nat.lt_succ_self _) (by omega) (by omega) (by rfl) (by exact ftInsG_0 f u) _ _ hP hD hS ls (lv_sub hl [1, 2, 3, 4, 0] rfl)
set_option maxHeartbeats 4000000 in
set_option maxRecDepth 100000 in
theorem c_X10_removeFrom (l : Launch) (D : va_G) (cI cS : ClassId) (sz : Nat) (row n : Nat) (f : Nat → Int32) (u k : Nat) (hn : n < 2 ^ 31) (hku : k < u) (hun : u ≤ n) : Met l yX10_removeFrom wsX10_removeFrom ({ frames := 1, cells := 0, slots := 0, locals := 22 }) (ftRW D cI cS [.ref row, .int (nI u), .int (nI k)] [(row, .inl (cI, n, .inl f))] sz) (ftQv D [(row, .inl (cI, n, .inl f))] [(row, .inl (cI, n, .inl (ftRem f u k)))] sz) 0 0 (va_A [(row, .inl (cI, n, .inl f))] sz) := by
  refine Met.ofW (cc := cX10_removeFrom) (maxL := 4) (ret := none) (by decide) rfl ?_
  intro p e s m args below meth c s₁ B hml hv
  obtain ⟨rfl, hsz, hP, hKK, hD0⟩ := hv
  have hK := hKK.1
  have hx := B.exec
  have hb := B.bytes
  have hr := B.returns
  have hts := atoms_spec (ws := wsX10_removeFrom) B.pre
  have hown : s.vm.findClass RX10 = some m.cls := findClass_of_methodNamed B.named
  have hlocks := B.notSynchronized
  subst hsz
  have hD := hD0.self (sz := s.heap.size)
  generalize hAe : va_A [(row, .inl (cI, n, .inl f))] s.heap.size = A at hD ⊢
  have hA : ∀ q : Nat, s.heap.size ≤ q → A q := fun q h => by rw [← hAe]; exact Or.inr h
  have hS : va_S A s.heap s.heap [] := va_S.rf
  have hD : va_D A [(row, .inl (cI, n, .inl f))] := hD
  have hP : va_P D vwCl [(row, .inl (cI, n, .inl f))] s.heap := hP
  have hl := lv_entry ([.ref row, .int (nI u), .int (nI k)]) (n := 4) (Nat.le_of_ble_eq_true rfl)
  rw [lg_entry_eq]
  generalize (lg_sl ([.ref row, .int (nI u), .int (nI k)]) ++ List.replicate (4 - (lg_sl ([.ref row, .int (nI u), .int (nI k)])).length) Slot.unset).toArray = ls at hl ⊢
  have hl : lv_has ls 4 [(0, .ref row), (1, .int (nI u)), (2, .int (nI k))] := hl
  refine lv_iload_n hx hb dX10_removeFrom_0 rfl (lv_at hl 2 rfl) ?_
  refine lv_istore_n (lv' := [(3, .int (nI k)), (0, .ref row), (1, .int (nI u)), (2, .int (nI k))]) hx hb dX10_removeFrom_1 rfl hl (by decide) rfl (fun ls hl => ?_)
  have lp2 : ∀ (n2 : Nat) (j : Nat) (x2_3 : Int32) (g2_row : Nat → Int32), u - j < n2 → (k ≤ j) → (j + 1 ≤ u) → x2_3 = nI j → g2_row = ftRemG f k j → ∀ (H : Heap) (locs : List Loc), va_P D vwCl [(row, .inl (cI, n, .inl g2_row))] H → va_D A [(row, .inl (cI, n, .inl g2_row))] → va_S A s.heap H locs → ∀ ls : Array Slot, lv_has ls 4 [(0, .ref row), (1, .int (nI u)), (2, .int (nI k)), (3, .int x2_3)] → W p l e (headSpec wsX10_removeFrom { frames := 1, cells := 0, slots := 0, locals := 22 }).room s m ([.ref row, .int (nI u), .int (nI k)] : List Value).toArray below meth c H locs 0 0 (MQ below (ftQv D [(row, .inl (cI, n, .inl f))] [(row, .inl (cI, n, .inl (ftRem f u k)))] s.heap.size) ([.ref row, .int (nI u), .int (nI k)] : List Value).toArray s 0 0 A) (F0 m 2 ls []) := by
    intro n2
    induction n2 with
    | zero =>
      intro j x2_3 g2_row hm2
      exact absurd hm2 (Nat.not_lt_zero _)
    | succ n2 ih2 =>
      intro j x2_3 g2_row hm2 hkj hju ex2_3 eg2_row H locs hP hD hS ls hl
      subst ex2_3
      refine lv_iload_n hx hb dX10_removeFrom_2 rfl (lv_at hl 3 rfl) ?_
      refine lv_iload_n hx hb dX10_removeFrom_3 rfl (lv_at hl 1 rfl) ?_
      refine lv_iconst (v := 1) hx hb dX10_removeFrom_4 (by decide) ?_
      refine lv_isub hx hb dX10_removeFrom_5 ?_
      refine ft_top (y := nI (u - 1)) (ft_subN (a := u) (b := 1) (by omega)) ?_
      refine lv_icmp_ge (tgt := 27) hx hb dX10_removeFrom_6 (by decide) (fun c6 => ?_) (fun c6 => ?_)
      · have c6n : (u - 1) ≤ j := ft_leN (by omega) (by omega) c6
        have hw9 : ([(row, .inl (cI, n, .inl g2_row))] : va_W) = [(row, .inl (cI, n, .inl (ftRem f u k)))] := by rw [eg2_row, ftRemG_e (u := u) (by omega) hju]
        rw [hw9] at hP hD
        exact W.vret hx hb hr (fun t ht hW => ⟨⟨(), rfl, trivial, by rw [ht]; exact hP, by rw [hAe]; exact hD⟩, by rw [hAe]; exact hS.F ht⟩) hS.2.2 dX10_removeFrom_27
      · have c6n : j < (u - 1) := ft_nleN (by omega) (by omega) c6
        refine lv_aload_n hx hb dX10_removeFrom_9 rfl (lv_at hl 0 rfl) ?_
        refine lv_iload_n hx hb dX10_removeFrom_10 rfl (lv_at hl 3 rfl) ?_
        refine lv_aload_n hx hb dX10_removeFrom_11 rfl (lv_at hl 0 rfl) ?_
        refine lv_iload_n hx hb dX10_removeFrom_12 rfl (lv_at hl 3 rfl) ?_
        refine lv_iconst (v := 1) hx hb dX10_removeFrom_13 (by decide) ?_
        refine lv_iadd hx hb dX10_removeFrom_14 ?_
        refine ft_top (y := nI (j + 1)) (ft_addN j 1) ?_
        refine ft_csi (r := ftAt n g2_row (nI (j + 1))) (va_runS (As := [.ref row, .int (nI (j + 1))]) (rest := [.int (nI j), .ref row]) ⟨hx, hb, hml, hown, hts⟩ (c_X10_at l D cI cS row n g2_row (nI (j + 1)) hn) (va_cwS 2 hts gX10_removeFrom_X10_at rfl rfl rfl (by decide +kernel) ⟨Nat.le_of_ble_eq_true rfl, Nat.le_of_ble_eq_true rfl⟩) (ft_preRO hP hKK [0] rfl) rfl rfl hl.1 rfl (lv_room (Nat.le_of_ble_eq_true rfl)) dX10_removeFrom_15 ⟨Nat.le_of_ble_eq_true rfl, Nat.le_of_ble_eq_true rfl⟩) ?_
        refine ft_top (y := g2_row (j + 1)) (ftAt_N (by omega) (by omega)) ?_
        refine ft_cv (wc := [(row, .inl (cI, n, .inl g2_row))]) (wr := []) (w1 := [(row, .inl (cI, n, .inl (ftPut n g2_row (nI j) (g2_row (j + 1)))))]) (ws1 := [(row, .inl (cI, n, .inl (ftPut n g2_row (nI j) (g2_row (j + 1)))))]) (va_runS (As := [.ref row, .int (nI j), .int (g2_row (j + 1))]) (rest := []) ⟨hx, hb, hml, hown, hts⟩ (c_X10_put l D cI cS H.size row n g2_row (nI j) (g2_row (j + 1)) hn) (va_cwS 3 hts gX10_removeFrom_X10_put rfl rfl rfl (by decide +kernel) ⟨Nat.le_of_ble_eq_true rfl, Nat.le_of_ble_eq_true rfl⟩) (ft_preRW hP hD hKK [0] rfl rfl rfl) rfl rfl hl.1 rfl (lv_room (Nat.le_of_ble_eq_true rfl)) dX10_removeFrom_18 ⟨Nat.le_of_ble_eq_true rfl, Nat.le_of_ble_eq_true rfl⟩) hP hD hS hA [0] [] [0] rfl rfl (by decide) (by decide) (by decide) rfl rfl (fun H locs hP hD hS => ?_)
        rw [ftPut_N (k := j) (by omega) (by omega)] at hP hD
        have hP : va_P D vwCl [(row, .inl (cI, n, .inl (upd g2_row j (g2_row (j + 1)))))] H := hP
        have hD : va_D A [(row, .inl (cI, n, .inl (upd g2_row j (g2_row (j + 1)))))] := hD
        refine lv_iinc (v := nI (j + 1)) (lv' := [(3, .int (nI (j + 1))), (0, .ref row), (1, .int (nI u)), (2, .int (nI k))]) hx hb dX10_removeFrom_21 hl (k := 3) rfl (ft_inc j) (by decide) rfl (fun ls hl => ?_)
        refine lv_goto (tgt := 2) hx hb dX10_removeFrom_24 (by decide) ?_
        exact ih2 (j + 1) (nI (j + 1)) (upd g2_row j (g2_row (j + 1))) (by omega) (by omega) (by omega) (by first | rfl | assumption) (by rw [eg2_row]; exact ftRemG_s hkj) _ _ hP hD hS ls (lv_sub hl [1, 2, 3, 0] rfl)
  exact lp2 _ k (nI k) f (Nat.lt_succ_self _) (by omega) (by omega) (by rfl) (by exact ftRemG_0 f k) _ _ hP hD hS ls (lv_sub hl [1, 2, 3, 0] rfl)
set_option maxHeartbeats 4000000 in
set_option maxRecDepth 100000 in
theorem c_X10_sum (l : Launch) (D : va_G) (cI cS : ClassId) (row n : Nat) (f : Nat → Int32) (u : Nat) (hn : n < 2 ^ 31) (hun : u ≤ n) : Met l yX10_sum wsX10_sum ({ frames := 1, cells := 0, slots := 0, locals := 21 }) (ftRO D cI cS [.ref row, .int (nI u)] [(row, .inl (cI, n, .inl f))]) (vp_Si (fun o9 => o9 = ftSum f u)) 0 0 (fun _ => False) := by
  refine Met.ofW (cc := cX10_sum) (maxL := 4) (ret := (some .int)) (by decide) rfl ?_
  intro p e s m args below meth c s₁ B hml hv
  obtain ⟨rfl, hP, hKK⟩ := hv
  have hK := hKK.1
  have hx := B.exec
  have hb := B.bytes
  have hr := B.returns
  have hts := atoms_spec (ws := wsX10_sum) B.pre
  have hown : s.vm.findClass RX10 = some m.cls := findClass_of_methodNamed B.named
  have hlocks := B.notSynchronized
  have hP : va_P D vwCl [(row, .inl (cI, n, .inl f))] s.heap := hP
  have hl := lv_entry ([.ref row, .int (nI u)]) (n := 4) (Nat.le_of_ble_eq_true rfl)
  rw [lg_entry_eq]
  generalize (lg_sl ([.ref row, .int (nI u)]) ++ List.replicate (4 - (lg_sl ([.ref row, .int (nI u)])).length) Slot.unset).toArray = ls at hl ⊢
  have hl : lv_has ls 4 [(0, .ref row), (1, .int (nI u))] := hl
  refine lv_iconst (v := 0) hx hb dX10_sum_0 (by decide) ?_
  refine lv_istore_n (lv' := [(2, .int 0), (0, .ref row), (1, .int (nI u))]) hx hb dX10_sum_1 rfl hl (by decide) rfl (fun ls hl => ?_)
  refine lv_iconst (v := 0) hx hb dX10_sum_2 (by decide) ?_
  refine lv_istore_n (lv' := [(3, .int 0), (2, .int 0), (0, .ref row), (1, .int (nI u))]) hx hb dX10_sum_3 rfl hl (by decide) rfl (fun ls hl => ?_)
  have lp4 : ∀ (n4 : Nat) (i : Nat) (x4_2 : Int32) (x4_3 : Int32), u - i < n4 → (i ≤ u) → x4_2 = ftSum f i → x4_3 = nI i → ∀ ls : Array Slot, lv_has ls 4 [(0, .ref row), (1, .int (nI u)), (2, .int x4_2), (3, .int x4_3)] → W p l e (headSpec wsX10_sum { frames := 1, cells := 0, slots := 0, locals := 21 }).room s m ([.ref row, .int (nI u)] : List Value).toArray below meth c s.heap [] 0 0 (MQ below (vp_Si (fun o9 => o9 = ftSum f u)) ([.ref row, .int (nI u)] : List Value).toArray s 0 0 (fun _ => False)) (F0 m 4 ls []) := by
    intro n4
    induction n4 with
    | zero =>
      intro i x4_2 x4_3  hm4
      exact absurd hm4 (Nat.not_lt_zero _)
    | succ n4 ih4 =>
      intro i x4_2 x4_3  hm4 hiu ex4_2 ex4_3  ls hl
      subst ex4_3
      refine lv_iload_n hx hb dX10_sum_4 rfl (lv_at hl 3 rfl) ?_
      refine lv_iload_n hx hb dX10_sum_5 rfl (lv_at hl 1 rfl) ?_
      refine lv_icmp_ge (tgt := 23) hx hb dX10_sum_6 (by decide) (fun c6 => ?_) (fun c6 => ?_)
      · have c6n : u ≤ i := ft_leN (by omega) (by omega) c6
        refine lv_iload_n hx hb dX10_sum_23 rfl (lv_at hl 2 rfl) ?_
        exact W.iret (v := x4_2) hx hb hr (fun t ht hW => ⟨x4_2, rfl, (by show (x4_2 : Int32) = ftSum f u; (obtain rfl : i = u := by omega); exact ex4_2), ht⟩) (fun _ h9 => absurd h9 List.not_mem_nil) dX10_sum_24
      · have c6n : i < u := ft_nleN (by omega) (by omega) c6
        refine lv_iload_n hx hb dX10_sum_9 rfl (lv_at hl 2 rfl) ?_
        refine lv_aload_n hx hb dX10_sum_10 rfl (lv_at hl 0 rfl) ?_
        refine lv_iload_n hx hb dX10_sum_11 rfl (lv_at hl 3 rfl) ?_
        refine ft_csi (r := ftAt n f (nI i)) (va_runS (As := [.ref row, .int (nI i)]) (rest := [.int x4_2]) ⟨hx, hb, hml, hown, hts⟩ (c_X10_at l D cI cS row n f (nI i) hn) (va_cwS 2 hts gX10_sum_X10_at rfl rfl rfl (by decide +kernel) ⟨Nat.le_of_ble_eq_true rfl, Nat.le_of_ble_eq_true rfl⟩) (ft_preRO hP hKK [0] rfl) rfl rfl hl.1 rfl (lv_room (Nat.le_of_ble_eq_true rfl)) dX10_sum_12 ⟨Nat.le_of_ble_eq_true rfl, Nat.le_of_ble_eq_true rfl⟩) ?_
        refine ft_top (y := f i) (ftAt_N (by omega) (by omega)) ?_
        refine lv_iadd hx hb dX10_sum_15 ?_
        refine lv_istore_n (lv' := [(2, .int (x4_2 + (f i))), (0, .ref row), (1, .int (nI u)), (3, .int (nI i))]) hx hb dX10_sum_16 rfl hl (by decide) rfl (fun ls hl => ?_)
        refine lv_iinc (v := nI (i + 1)) (lv' := [(3, .int (nI (i + 1))), (2, .int (x4_2 + (f i))), (0, .ref row), (1, .int (nI u))]) hx hb dX10_sum_17 hl (k := 3) rfl (ft_inc i) (by decide) rfl (fun ls hl => ?_)
        refine lv_goto (tgt := 4) hx hb dX10_sum_20 (by decide) ?_
        exact ih4 (i + 1) (x4_2 + (f i)) (nI (i + 1))  (by omega) (by omega) (by rw [ex4_2]; rfl) (by first | rfl | assumption)  ls (lv_sub hl [2, 3, 1, 0] rfl)
  exact lp4 _ 0 0 0  (Nat.lt_succ_self _) (by omega) (by rfl) (by rfl) ls (lv_sub hl [2, 3, 1, 0] rfl)
end
section
/-! links: places in order, attenuations, losses -/
/-- the places of the parts, as numbers, ascending -/
def ftPos (pf : Nat → Int32) (n : Nat) (P : Nat → Nat) : Prop := n ≤ 10 ∧ (∀ t, t < n → pf t = nI (P t)) ∧ (∀ t, t < n → P t < 400) ∧ ∀ a b, a < b → b < n → P a < P b
def ftLossFits (k x : Int32) : Prop := (k = 0 ∧ -500 ≤ x ∧ x ≤ 5000) ∨ (k = 1 ∧ 0 ≤ x ∧ x ≤ 5000) ∨ (¬ k = 0 ∧ ¬ k = 1 ∧ 0 ≤ x ∧ x ≤ 50)
def ftReflFits (k x : Int32) : Prop := (k = 1 ∧ 1 ≤ x ∧ x ≤ 20000) ∨ (¬ k = 1 ∧ x = 0)
def ftIdx (pf : Nat → Int32) (x : Int32) : Nat → Nat
  | 0 => 0
  | n + 1 => if ftIdx pf x n = n ∧ pf n < x then n + 1 else ftIdx pf x n
theorem ftIdx_le (pf : Nat → Int32) (x : Int32) (n : Nat) : ftIdx pf x n ≤ n := by
  induction n with
  | zero => exact Nat.le_refl 0
  | succ n ih => unfold ftIdx; split <;> omega
theorem ftIdx_all {pf : Nat → Int32} {x : Int32} {n : Nat} (h : ∀ t, t < n → pf t < x) : ftIdx pf x n = n := by
  induction n with
  | zero => rfl
  | succ n ih => unfold ftIdx; rw [if_pos ⟨ih (fun t ht => h t (by omega)), h n (by omega)⟩]
theorem ftIdx_of {pf : Nat → Int32} {x : Int32} {j n : Nat} (hj : j ≤ n) (h : ∀ t, t < j → pf t < x) (hs : j < n → ¬ pf j < x) : ftIdx pf x n = j := by
  induction n with
  | zero => obtain rfl : j = 0 := by omega
            rfl
  | succ n ih =>
    by_cases q : j = n + 1
    · subst q; exact ftIdx_all h
    · have e := ih (by omega) (fun r => hs (by omega))
      unfold ftIdx
      rw [e]
      refine if_neg (fun r => ?_)
      obtain ⟨r1, r2⟩ := r
      subst r1
      exact hs (by omega) r2
def ftFade (kf pf lf : Nat → Int32) (att x : Int32) : Nat → Int32
  | 0 => att
  | n + 1 => if kf n = 2 ∧ pf n ≤ x then lf n else ftFade kf pf lf att x n
def ftFades (kf pf lf : Nat → Int32) (att : Int32) (n X : Nat) : Int32 := ftSum (fun x => ftFade kf pf lf att (nI x) n) X
theorem ftSum_congr {f g : Nat → Int32} {X : Nat} (h : ∀ x, x < X → f x = g x) : ftSum f X = ftSum g X := by
  induction X with
  | zero => rfl
  | succ X ih => show ftSum f X + f X = ftSum g X + g X; rw [ih (fun x hx => h x (by omega)), h X (by omega)]
theorem ftFades_0 (kf pf lf : Nat → Int32) (att : Int32) (Y : Nat) : 0 + att * (nI Y - nI 0) = ftFades kf pf lf att 0 Y := by
  induction Y with
  | zero => show 0 + att * (nI 0 - nI 0) = 0; rw [Int32.sub_self, Int32.mul_zero, Int32.zero_add]
  | succ Y ih =>
    show _ = ftFades kf pf lf att 0 Y + att
    rw [← ih, nI_succ, nI_0, Int32.sub_zero, Int32.sub_zero, Int32.mul_add, Int32.mul_one, Int32.zero_add, Int32.zero_add]
theorem ftFades_change {kf pf lf : Nat → Int32} {att : Int32} {i p Y : Nat} (hk : kf i = 2) (hp : pf i = nI p) (hp4 : p < 400) (hY : p ≤ Y) (hY4 : Y ≤ 1000) :
    ftFades kf pf lf att i p + lf i * (nI Y - nI p) = ftFades kf pf lf att (i + 1) Y := by
  induction Y with
  | zero =>
    obtain rfl : p = 0 := by omega
    show 0 + lf i * (nI 0 - nI 0) = 0
    rw [Int32.sub_self, Int32.mul_zero, Int32.zero_add]
  | succ Y ih =>
    by_cases q : p = Y + 1
    · rw [q, Int32.sub_self, Int32.mul_zero, Int32.add_zero]
      refine ftSum_congr (fun x hx => ?_)
      show _ = if kf i = 2 ∧ pf i ≤ nI x then lf i else ftFade kf pf lf att (nI x) i
      rw [if_neg]
      rw [hp]
      exact fun r => nI_ge (show x < p by omega) (by omega) r.2
    · show _ = ftFades kf pf lf att (i + 1) Y + (if kf i = 2 ∧ pf i ≤ nI Y then lf i else ftFade kf pf lf att (nI Y) i)
      rw [if_pos ⟨hk, by rw [hp]; exact nI_le (by omega) (by omega)⟩, ← ih (by omega) (by omega), nI_succ, show nI Y + 1 - nI p = (nI Y - nI p) + 1 by rw [Int32.sub_eq_add_neg, Int32.sub_eq_add_neg]; ac_rfl, Int32.mul_add, Int32.mul_one, Int32.add_assoc]
theorem ftFade_skip {kf pf lf : Nat → Int32} {att x : Int32} {i : Nat} (hk : ¬ kf i = 2) : ftFade kf pf lf att x (i + 1) = ftFade kf pf lf att x i := if_neg (fun q => hk q.1)
theorem ftFade_rest {kf pf lf : Nat → Int32} {att x : Int32} {i : Nat} : ∀ n, i ≤ n → (∀ t, i ≤ t → t < n → ¬ pf t ≤ x) → ftFade kf pf lf att x n = ftFade kf pf lf att x i := by
  intro n
  induction n with
  | zero => intro h _; obtain rfl : i = 0 := by omega
            rfl
  | succ n ih =>
    intro h hr
    by_cases q : i = n + 1
    · rw [q]
    · rw [show ftFade kf pf lf att x (n + 1) = ftFade kf pf lf att x n from if_neg (fun r => hr n (by omega) (by omega) r.2)]
      exact ih (by omega) (fun t h1 h2 => hr t h1 (by omega))
theorem ftFades_rest {kf pf lf : Nat → Int32} {att : Int32} {i n X : Nat} {P : Nat → Nat} (hpp : ftPos pf n P) (hi : i ≤ n) (hX : X ≤ 1000) (h : i < n → X ≤ P i) : ftFades kf pf lf att n X = ftFades kf pf lf att i X := by
  refine ftSum_congr (fun x hx => ftFade_rest n hi (fun t h1 h2 => ?_))
  rw [hpp.2.1 t h2]
  have h3 := hpp.2.2.1 t h2
  refine nI_ge (show x < P t from ?_) (by omega)
  rcases Nat.lt_or_eq_of_le h1 with q | q
  · have := hpp.2.2.2 i t q h2
    have := h (by omega)
    omega
  · subst q
    have := h h2
    omega
def ftJoints (kf pf lf : Nat → Int32) (x : Int32) : Nat → Int32
  | 0 => 0
  | n + 1 => ftJoints kf pf lf x n + (if ¬ kf n = 2 ∧ pf n < x then lf n else 0)
def ftSpr1 (l p x w : Int32) : Int32 := if w ≤ x - p + 1 then l else ftQuot (l * (x - p + 1)) w
def ftSpr (kf pf lf : Nat → Int32) (x w : Int32) : Nat → Int32
  | 0 => 0
  | n + 1 => ftSpr kf pf lf x w n + (if ¬ kf n = 2 ∧ pf n ≤ x then ftSpr1 (lf n) (pf n) x w else 0)
theorem ftSpr_rest {kf pf lf : Nat → Int32} {x w : Int32} {i : Nat} : ∀ n, i ≤ n → (∀ t, i ≤ t → t < n → ¬ pf t ≤ x) → ftSpr kf pf lf x w n = ftSpr kf pf lf x w i := by
  intro n
  induction n with
  | zero => intro h _; obtain rfl : i = 0 := by omega
            rfl
  | succ n ih =>
    intro h hr
    by_cases q : i = n + 1
    · rw [q]
    · show ftSpr kf pf lf x w n + _ = _
      rw [if_neg (fun r => hr n (by omega) (by omega) r.2), Int32.add_zero]
      exact ih (by omega) (fun t h1 h2 => hr t h1 (by omega))
theorem ftPos_rest {pf : Nat → Int32} {n i : Nat} {P : Nat → Nat} (hpp : ftPos pf n P) {X : Nat} (hX : X ≤ 1000) (h : i < n → X < P i) : ∀ t, i ≤ t → t < n → ¬ pf t ≤ nI X := by
  intro t h1 h2
  rw [hpp.2.1 t h2]
  have h3 := hpp.2.2.1 t h2
  refine nI_ge (show X < P t from ?_) (by omega)
  rcases Nat.lt_or_eq_of_le h1 with q | q
  · have := hpp.2.2.2 i t q h2
    have := h (by omega)
    omega
  · subst q
    exact h h2
set_option maxHeartbeats 4000000 in
set_option maxRecDepth 100000 in
theorem c_X4_placeFits (l : Launch) (D : va_G) (cI cS : ClassId) (a0 : Nat) (len att en : Int32) (n ak ap al ar : Nat) (x : Int32)  : Met l yX4_placeFits wsX4_placeFits ({ frames := 1, cells := 0, slots := 0, locals := 22 }) (ftRO D cI cS [.ref a0, .int x] [(a0, .inr (4, [.int len, .int att, .int en, .int (nI n), .ref ak, .ref ap, .ref al, .ref ar]))]) (vp_Si (fun o9 => o9 = ftB (1 ≤ x ∧ x ≤ len - 1))) 0 0 (fun _ => False) := by
  refine Met.ofW (cc := cX4_placeFits) (maxL := 2) (ret := (some .boolean)) (by decide) rfl ?_
  intro p e s m args below meth c s₁ B hml hv
  obtain ⟨rfl, hP, hKK⟩ := hv
  have hK := hKK.1
  have hx := B.exec
  have hb := B.bytes
  have hr := B.returns
  have hts := atoms_spec (ws := wsX4_placeFits) B.pre
  have hown : s.vm.findClass RX4 = some m.cls := findClass_of_methodNamed B.named
  have hlocks := B.notSynchronized
  have hP : va_P D vwCl [(a0, .inr (4, [.int len, .int att, .int en, .int (nI n), .ref ak, .ref ap, .ref al, .ref ar]))] s.heap := hP
  have hl := lv_entry ([.ref a0, .int x]) (n := 2) (Nat.le_of_ble_eq_true rfl)
  rw [lg_entry_eq]
  generalize (lg_sl ([.ref a0, .int x]) ++ List.replicate (2 - (lg_sl ([.ref a0, .int x])).length) Slot.unset).toArray = ls at hl ⊢
  have hl : lv_has ls 2 [(0, .ref a0), (1, .int x)] := hl
  refine lv_iload_n hx hb dX4_placeFits_0 rfl (lv_at hl 1 rfl) ?_
  refine lv_iconst (v := 1) hx hb dX4_placeFits_1 (by decide) ?_
  refine lv_aload_n hx hb dX4_placeFits_2 rfl (lv_at hl 0 rfl) ?_
  refine va_get (D := D) (ci := 4) (v := .int len) (C := RX4) (T := TX4) (N := 8) hx hb hts (by decide +kernel) hown hK hP 0 rfl rfl 0 (by decide) (hts (.fieldLink RX4 27 "FiberTrace$Link" "length" "I") (by decide +kernel)) (fun _ h9 => h9) rfl dX4_placeFits_3 ?_
  refine lv_iconst (v := 1) hx hb dX4_placeFits_6 (by decide) ?_
  refine lv_isub hx hb dX4_placeFits_7 ?_
  refine ft_csi (r := ftB (1 ≤ x ∧ x ≤ (len - 1))) (va_runSN (As := [.int x, .int 1, .int (len - 1)]) (rest := []) ⟨hx, hb, hml, hown, hts⟩ (c_X10_isWithin l D cI cS x 1 (len - 1)) ⟨va_cnB 3 hts gX4_placeFits_X10_isWithin_n46 rfl rfl rfl (hKK.2 _ (List.mem_of_getElem? (i := 10) rfl)) (hts (.initialized RX10) (by decide +kernel)) (by decide +kernel) ⟨Nat.le_of_ble_eq_true rfl, Nat.le_of_ble_eq_true rfl⟩, hts (.static yX10_isWithin) (by decide +kernel), trivial⟩ (ft_preRO hP hKK [] rfl) rfl rfl hl.1 rfl (lv_room (Nat.le_of_ble_eq_true rfl)) dX4_placeFits_8 ⟨Nat.le_of_ble_eq_true rfl, Nat.le_of_ble_eq_true rfl⟩) ?_
  exact W.zret (v := ftB (1 ≤ x ∧ x ≤ (len - 1))) hx hb hr (by first | rfl | exact ftB_nar) (fun t ht hW => ⟨ftB (1 ≤ x ∧ x ≤ (len - 1)), rfl, rfl, ht⟩) (fun _ h9 => absurd h9 List.not_mem_nil) dX4_placeFits_11
set_option maxHeartbeats 4000000 in
set_option maxRecDepth 100000 in
theorem c_X4_lossFits (l : Launch) (D : va_G) (cI cS : ClassId) (k x : Int32)  : Met l yX4_lossFits wsX4_lossFits ({ frames := 1, cells := 0, slots := 0, locals := 22 }) (ftRO D cI cS [.int k, .int x] []) (vp_Si (fun o9 => o9 = ftB (ftLossFits k x))) 0 0 (fun _ => False) := by
  refine Met.ofW (cc := cX4_lossFits) (maxL := 2) (ret := (some .boolean)) (by decide) rfl ?_
  intro p e s m args below meth c s₁ B hml hv
  obtain ⟨rfl, hP, hKK⟩ := hv
  have hK := hKK.1
  have hx := B.exec
  have hb := B.bytes
  have hr := B.returns
  have hts := atoms_spec (ws := wsX4_lossFits) B.pre
  have hown : s.vm.findClass RX4 = some m.cls := findClass_of_methodNamed B.named
  have hlocks := B.notSynchronized
  have hP : va_P D vwCl [] s.heap := hP
  have hl := lv_entry ([.int k, .int x]) (n := 2) (Nat.le_of_ble_eq_true rfl)
  rw [lg_entry_eq]
  generalize (lg_sl ([.int k, .int x]) ++ List.replicate (2 - (lg_sl ([.int k, .int x])).length) Slot.unset).toArray = ls at hl ⊢
  have hl : lv_has ls 2 [(0, .int k), (1, .int x)] := hl
  refine lv_iload_n hx hb dX4_lossFits_0 rfl (lv_at hl 0 rfl) ?_
  by_cases c1_0 : k = 0
  · refine lv_lookup (off := 27) (tgt := 28) hx hb dX4_lossFits_1 (by decide) (by rw [c1_0]; decide) (by decide) ?_
    refine lv_iload_n hx hb dX4_lossFits_28 rfl (lv_at hl 1 rfl) ?_
    refine lv_sipush (v := (-500)) hx hb dX4_lossFits_29 (by decide) ?_
    refine lv_sipush (v := 5000) hx hb dX4_lossFits_32 (by decide) ?_
    refine ft_csi (r := ftB ((-500) ≤ x ∧ x ≤ 5000)) (va_runSN (As := [.int x, .int (-500), .int 5000]) (rest := []) ⟨hx, hb, hml, hown, hts⟩ (c_X10_isWithin l D cI cS x (-500) 5000) ⟨va_cnB 3 hts gX4_lossFits_X10_isWithin_n46 rfl rfl rfl (hKK.2 _ (List.mem_of_getElem? (i := 10) rfl)) (hts (.initialized RX10) (by decide +kernel)) (by decide +kernel) ⟨Nat.le_of_ble_eq_true rfl, Nat.le_of_ble_eq_true rfl⟩, hts (.static yX10_isWithin) (by decide +kernel), trivial⟩ (ft_preRO hP hKK [] rfl) rfl rfl hl.1 rfl (lv_room (Nat.le_of_ble_eq_true rfl)) dX4_lossFits_35 ⟨Nat.le_of_ble_eq_true rfl, Nat.le_of_ble_eq_true rfl⟩) ?_
    exact W.zret (v := ftB ((-500) ≤ x ∧ x ≤ 5000)) hx hb hr (by first | rfl | exact ftB_nar) (fun t ht hW => ⟨ftB ((-500) ≤ x ∧ x ≤ 5000), rfl, (by show (ftB ((-500) ≤ x ∧ x ≤ 5000) : Int32) = ftB (ftLossFits k x); exact ftB_congr (by subst c1_0; simp [ftLossFits])), ht⟩) (fun _ h9 => absurd h9 List.not_mem_nil) dX4_lossFits_38
  by_cases c1_1 : k = 1
  · refine lv_lookup (off := 38) (tgt := 39) hx hb dX4_lossFits_1 (by decide) (by rw [c1_1]; decide) (by decide) ?_
    refine lv_iload_n hx hb dX4_lossFits_39 rfl (lv_at hl 1 rfl) ?_
    refine lv_iconst (v := 0) hx hb dX4_lossFits_40 (by decide) ?_
    refine lv_sipush (v := 5000) hx hb dX4_lossFits_41 (by decide) ?_
    refine ft_csi (r := ftB (0 ≤ x ∧ x ≤ 5000)) (va_runSN (As := [.int x, .int 0, .int 5000]) (rest := []) ⟨hx, hb, hml, hown, hts⟩ (c_X10_isWithin l D cI cS x 0 5000) ⟨va_cnB 3 hts gX4_lossFits_X10_isWithin_n46 rfl rfl rfl (hKK.2 _ (List.mem_of_getElem? (i := 10) rfl)) (hts (.initialized RX10) (by decide +kernel)) (by decide +kernel) ⟨Nat.le_of_ble_eq_true rfl, Nat.le_of_ble_eq_true rfl⟩, hts (.static yX10_isWithin) (by decide +kernel), trivial⟩ (ft_preRO hP hKK [] rfl) rfl rfl hl.1 rfl (lv_room (Nat.le_of_ble_eq_true rfl)) dX4_lossFits_44 ⟨Nat.le_of_ble_eq_true rfl, Nat.le_of_ble_eq_true rfl⟩) ?_
    exact W.zret (v := ftB (0 ≤ x ∧ x ≤ 5000)) hx hb hr (by first | rfl | exact ftB_nar) (fun t ht hW => ⟨ftB (0 ≤ x ∧ x ≤ 5000), rfl, (by show (ftB (0 ≤ x ∧ x ≤ 5000) : Int32) = ftB (ftLossFits k x); exact ftB_congr (by subst c1_1; simp [ftLossFits])), ht⟩) (fun _ h9 => absurd h9 List.not_mem_nil) dX4_lossFits_47
  have c1_0i := lv_neT (a := 0) c1_0 (by decide)
  have c1_1i := lv_neT (a := 1) c1_1 (by decide)
  refine lv_lookup (off := 47) (tgt := 48) hx hb dX4_lossFits_1 (by decide) (by simp [Op.lookupswitch.offset, c1_0i, Ne.symm c1_0i, c1_1i, Ne.symm c1_1i]) (by decide) ?_
  refine lv_iload_n hx hb dX4_lossFits_48 rfl (lv_at hl 1 rfl) ?_
  refine lv_iconst (v := 0) hx hb dX4_lossFits_49 (by decide) ?_
  refine lv_bipush (v := 50) hx hb dX4_lossFits_50 (by decide) ?_
  refine ft_csi (r := ftB (0 ≤ x ∧ x ≤ 50)) (va_runSN (As := [.int x, .int 0, .int 50]) (rest := []) ⟨hx, hb, hml, hown, hts⟩ (c_X10_isWithin l D cI cS x 0 50) ⟨va_cnB 3 hts gX4_lossFits_X10_isWithin_n46 rfl rfl rfl (hKK.2 _ (List.mem_of_getElem? (i := 10) rfl)) (hts (.initialized RX10) (by decide +kernel)) (by decide +kernel) ⟨Nat.le_of_ble_eq_true rfl, Nat.le_of_ble_eq_true rfl⟩, hts (.static yX10_isWithin) (by decide +kernel), trivial⟩ (ft_preRO hP hKK [] rfl) rfl rfl hl.1 rfl (lv_room (Nat.le_of_ble_eq_true rfl)) dX4_lossFits_52 ⟨Nat.le_of_ble_eq_true rfl, Nat.le_of_ble_eq_true rfl⟩) ?_
  exact W.zret (v := ftB (0 ≤ x ∧ x ≤ 50)) hx hb hr (by first | rfl | exact ftB_nar) (fun t ht hW => ⟨ftB (0 ≤ x ∧ x ≤ 50), rfl, (by show (ftB (0 ≤ x ∧ x ≤ 50) : Int32) = ftB (ftLossFits k x); exact ftB_congr (by simp [ftLossFits, c1_0, c1_1])), ht⟩) (fun _ h9 => absurd h9 List.not_mem_nil) dX4_lossFits_55
set_option maxHeartbeats 4000000 in
set_option maxRecDepth 100000 in
theorem c_X4_reflectionFits (l : Launch) (D : va_G) (cI cS : ClassId) (k x : Int32)  : Met l yX4_reflectionFits wsX4_reflectionFits ({ frames := 1, cells := 0, slots := 0, locals := 22 }) (ftRO D cI cS [.int k, .int x] []) (vp_Si (fun o9 => o9 = ftB (ftReflFits k x))) 0 0 (fun _ => False) := by
  refine Met.ofW (cc := cX4_reflectionFits) (maxL := 2) (ret := (some .boolean)) (by decide) rfl ?_
  intro p e s m args below meth c s₁ B hml hv
  obtain ⟨rfl, hP, hKK⟩ := hv
  have hK := hKK.1
  have hx := B.exec
  have hb := B.bytes
  have hr := B.returns
  have hts := atoms_spec (ws := wsX4_reflectionFits) B.pre
  have hown : s.vm.findClass RX4 = some m.cls := findClass_of_methodNamed B.named
  have hlocks := B.notSynchronized
  have hP : va_P D vwCl [] s.heap := hP
  have hl := lv_entry ([.int k, .int x]) (n := 2) (Nat.le_of_ble_eq_true rfl)
  rw [lg_entry_eq]
  generalize (lg_sl ([.int k, .int x]) ++ List.replicate (2 - (lg_sl ([.int k, .int x])).length) Slot.unset).toArray = ls at hl ⊢
  have hl : lv_has ls 2 [(0, .int k), (1, .int x)] := hl
  refine lv_iload_n hx hb dX4_reflectionFits_0 rfl (lv_at hl 0 rfl) ?_
  refine lv_iconst (v := 1) hx hb dX4_reflectionFits_1 (by decide) ?_
  refine lv_icmp_ne (tgt := 16) hx hb dX4_reflectionFits_2 (by decide) (fun c2 => ?_) (fun c2 => ?_)
  · refine lv_iload_n hx hb dX4_reflectionFits_16 rfl (lv_at hl 1 rfl) ?_
    refine lv_if_ne (tgt := 24) hx hb dX4_reflectionFits_17 (by decide) (fun c17 => ?_) (fun c17 => ?_)
    · refine lv_iconst (v := 0) hx hb dX4_reflectionFits_24 (by decide) ?_
      exact W.zret (v := 0) hx hb hr (by rfl) (fun t ht hW => ⟨0, rfl, (by show (0 : Int32) = ftB (ftReflFits k x); first | exact ftB_congr (by simp [ftReflFits, c2]) | exact (ftB_t (Or.inr ⟨c2, c17⟩)).symm | exact (ftB_f (fun q => q.elim (fun r => c2 r.1) (fun r => c17 r.2))).symm), ht⟩) (fun _ h9 => absurd h9 List.not_mem_nil) dX4_reflectionFits_25
    · refine lv_iconst (v := 1) hx hb dX4_reflectionFits_20 (by decide) ?_
      refine lv_goto (tgt := 25) hx hb dX4_reflectionFits_21 (by decide) ?_
      exact W.zret (v := 1) hx hb hr (by rfl) (fun t ht hW => ⟨1, rfl, (by show (1 : Int32) = ftB (ftReflFits k x); first | exact ftB_congr (by simp [ftReflFits, c2]) | exact (ftB_t (Or.inr ⟨c2, c17⟩)).symm | exact (ftB_f (fun q => q.elim (fun r => c2 r.1) (fun r => c17 r.2))).symm), ht⟩) (fun _ h9 => absurd h9 List.not_mem_nil) dX4_reflectionFits_25
  · refine lv_iload_n hx hb dX4_reflectionFits_5 rfl (lv_at hl 1 rfl) ?_
    refine lv_iconst (v := 1) hx hb dX4_reflectionFits_6 (by decide) ?_
    refine lv_sipush (v := 20000) hx hb dX4_reflectionFits_7 (by decide) ?_
    refine ft_csi (r := ftB (1 ≤ x ∧ x ≤ 20000)) (va_runSN (As := [.int x, .int 1, .int 20000]) (rest := []) ⟨hx, hb, hml, hown, hts⟩ (c_X10_isWithin l D cI cS x 1 20000) ⟨va_cnB 3 hts gX4_reflectionFits_X10_isWithin_n46 rfl rfl rfl (hKK.2 _ (List.mem_of_getElem? (i := 10) rfl)) (hts (.initialized RX10) (by decide +kernel)) (by decide +kernel) ⟨Nat.le_of_ble_eq_true rfl, Nat.le_of_ble_eq_true rfl⟩, hts (.static yX10_isWithin) (by decide +kernel), trivial⟩ (ft_preRO hP hKK [] rfl) rfl rfl hl.1 rfl (lv_room (Nat.le_of_ble_eq_true rfl)) dX4_reflectionFits_10 ⟨Nat.le_of_ble_eq_true rfl, Nat.le_of_ble_eq_true rfl⟩) ?_
    refine lv_goto (tgt := 25) hx hb dX4_reflectionFits_13 (by decide) ?_
    exact W.zret (v := ftB (1 ≤ x ∧ x ≤ 20000)) hx hb hr (by first | rfl | exact ftB_nar) (fun t ht hW => ⟨ftB (1 ≤ x ∧ x ≤ 20000), rfl, (by show (ftB (1 ≤ x ∧ x ≤ 20000) : Int32) = ftB (ftReflFits k x); first | exact ftB_congr (by simp [ftReflFits, c2]) | exact (ftB_t (Or.inr ⟨c2, c17⟩)).symm | exact (ftB_f (fun q => q.elim (fun r => c2 r.1) (fun r => c17 r.2))).symm), ht⟩) (fun _ h9 => absurd h9 List.not_mem_nil) dX4_reflectionFits_25
set_option maxHeartbeats 4000000 in
set_option maxRecDepth 100000 in
theorem c_X4_hasPartAt (l : Launch) (D : va_G) (cI cS : ClassId) (a0 : Nat) (len att en : Int32) (n ak ap al ar : Nat) (pf : Nat → Int32) (x : Int32) (hn : n ≤ 10) : Met l yX4_hasPartAt wsX4_hasPartAt ({ frames := 1, cells := 0, slots := 0, locals := 21 }) (ftRO D cI cS [.ref a0, .int x] [(a0, .inr (4, [.int len, .int att, .int en, .int (nI n), .ref ak, .ref ap, .ref al, .ref ar])), (ap, .inl (cI, 10, .inl pf))]) (vp_Si (fun o9 => o9 = ftB (∃ i, i < n ∧ pf i = x))) 0 0 (fun _ => False) := by
  refine Met.ofW (cc := cX4_hasPartAt) (maxL := 3) (ret := (some .boolean)) (by decide) rfl ?_
  intro p e s m args below meth c s₁ B hml hv
  obtain ⟨rfl, hP, hKK⟩ := hv
  have hK := hKK.1
  have hx := B.exec
  have hb := B.bytes
  have hr := B.returns
  have hts := atoms_spec (ws := wsX4_hasPartAt) B.pre
  have hown : s.vm.findClass RX4 = some m.cls := findClass_of_methodNamed B.named
  have hlocks := B.notSynchronized
  have hP : va_P D vwCl [(a0, .inr (4, [.int len, .int att, .int en, .int (nI n), .ref ak, .ref ap, .ref al, .ref ar])), (ap, .inl (cI, 10, .inl pf))] s.heap := hP
  have hl := lv_entry ([.ref a0, .int x]) (n := 3) (Nat.le_of_ble_eq_true rfl)
  rw [lg_entry_eq]
  generalize (lg_sl ([.ref a0, .int x]) ++ List.replicate (3 - (lg_sl ([.ref a0, .int x])).length) Slot.unset).toArray = ls at hl ⊢
  have hl : lv_has ls 3 [(0, .ref a0), (1, .int x)] := hl
  refine lv_iconst (v := 0) hx hb dX4_hasPartAt_0 (by decide) ?_
  refine lv_istore_n (lv' := [(2, .int 0), (0, .ref a0), (1, .int x)]) hx hb dX4_hasPartAt_1 rfl hl (by decide) rfl (fun ls hl => ?_)
  have lp2 : ∀ (n2 : Nat) (i : Nat) (x2_2 : Int32), n - i < n2 → (i ≤ n) → (∀ t, t < i → pf t ≠ x) → x2_2 = nI i → ∀ ls : Array Slot, lv_has ls 3 [(0, .ref a0), (1, .int x), (2, .int x2_2)] → W p l e (headSpec wsX4_hasPartAt { frames := 1, cells := 0, slots := 0, locals := 21 }).room s m ([.ref a0, .int x] : List Value).toArray below meth c s.heap [] 0 0 (MQ below (vp_Si (fun o9 => o9 = ftB (∃ i, i < n ∧ pf i = x))) ([.ref a0, .int x] : List Value).toArray s 0 0 (fun _ => False)) (F0 m 2 ls []) := by
    intro n2
    induction n2 with
    | zero =>
      intro i x2_2  hm2
      exact absurd hm2 (Nat.not_lt_zero _)
    | succ n2 ih2 =>
      intro i x2_2  hm2 hin hno ex2_2  ls hl
      subst ex2_2
      refine lv_iload_n hx hb dX4_hasPartAt_2 rfl (lv_at hl 2 rfl) ?_
      refine lv_aload_n hx hb dX4_hasPartAt_3 rfl (lv_at hl 0 rfl) ?_
      refine va_get (D := D) (ci := 4) (v := .int (nI n)) (C := RX4) (T := TX4) (N := 8) hx hb hts (by decide +kernel) hown hK hP 0 rfl rfl 3 (by decide) (hts (.fieldLink RX4 37 "FiberTrace$Link" "size" "I") (by decide +kernel)) (fun _ h9 => h9) rfl dX4_hasPartAt_4 ?_
      refine lv_icmp_ge (tgt := 30) hx hb dX4_hasPartAt_7 (by decide) (fun c7 => ?_) (fun c7 => ?_)
      · have c7n : n ≤ i := ft_leN (by omega) (by omega) c7
        refine lv_iconst (v := 0) hx hb dX4_hasPartAt_30 (by decide) ?_
        exact W.zret (v := 0) hx hb hr (by rfl) (fun t ht hW => ⟨0, rfl, (by show (0 : Int32) = ftB (∃ i, i < n ∧ pf i = x); exact (ftB_f (fun ⟨t, h1, h2⟩ => hno t (by omega) h2)).symm), ht⟩) (fun _ h9 => absurd h9 List.not_mem_nil) dX4_hasPartAt_31
      · have c7n : i < n := ft_nleN (by omega) (by omega) c7
        refine lv_aload_n hx hb dX4_hasPartAt_10 rfl (lv_at hl 0 rfl) ?_
        refine va_get (D := D) (ci := 4) (v := .ref ap) (C := RX4) (T := TX4) (N := 8) hx hb hts (by decide +kernel) hown hK hP 0 rfl rfl 5 (by decide) (hts (.fieldLink RX4 15 "FiberTrace$Link" "places" "[I") (by decide +kernel)) (fun _ h9 => h9) rfl dX4_hasPartAt_11 ?_
        refine lv_iload_n hx hb dX4_hasPartAt_14 rfl (lv_at hl 2 rfl) ?_
        refine ft_csi (r := ftAt 10 pf (nI i)) (va_runSN (As := [.ref ap, .int (nI i)]) (rest := []) ⟨hx, hb, hml, hown, hts⟩ (c_X10_at l D cI cS ap 10 pf (nI i) (by omega)) ⟨va_cnB 2 hts gX4_hasPartAt_X10_at_n50 rfl rfl rfl (hKK.2 _ (List.mem_of_getElem? (i := 11) rfl)) (hts (.initialized RX10) (by decide +kernel)) (by decide +kernel) ⟨Nat.le_of_ble_eq_true rfl, Nat.le_of_ble_eq_true rfl⟩, hts (.static yX10_at) (by decide +kernel), trivial⟩ (ft_preRO hP hKK [1] rfl) rfl rfl hl.1 rfl (lv_room (Nat.le_of_ble_eq_true rfl)) dX4_hasPartAt_15 ⟨Nat.le_of_ble_eq_true rfl, Nat.le_of_ble_eq_true rfl⟩) ?_
        refine ft_top (y := pf i) (ftAt_N (by omega) (by omega)) ?_
        refine lv_iload_n hx hb dX4_hasPartAt_18 rfl (lv_at hl 1 rfl) ?_
        refine lv_icmp_ne (tgt := 24) hx hb dX4_hasPartAt_19 (by decide) (fun c19 => ?_) (fun c19 => ?_)
        · refine lv_iinc (v := nI (i + 1)) (lv' := [(2, .int (nI (i + 1))), (0, .ref a0), (1, .int x)]) hx hb dX4_hasPartAt_24 hl (k := 2) rfl (ft_inc i) (by decide) rfl (fun ls hl => ?_)
          refine lv_goto (tgt := 2) hx hb dX4_hasPartAt_27 (by decide) ?_
          exact ih2 (i + 1) (nI (i + 1))  (by omega) (by omega) (by intro t ht q; rcases Nat.lt_succ_iff_lt_or_eq.mp ht with r | r; exact hno t r q; subst r; exact c19 q) (by first | rfl | assumption)  ls (lv_sub hl [1, 2, 0] rfl)
        · refine lv_iconst (v := 1) hx hb dX4_hasPartAt_22 (by decide) ?_
          exact W.zret (v := 1) hx hb hr (by rfl) (fun t ht hW => ⟨1, rfl, (by show (1 : Int32) = ftB (∃ i, i < n ∧ pf i = x); exact (ftB_t ⟨i, c7n, c19⟩).symm), ht⟩) (fun _ h9 => absurd h9 List.not_mem_nil) dX4_hasPartAt_23
  exact lp2 _ 0 0  (Nat.lt_succ_self _) (by omega) (by intro t ht; omega) (by rfl) ls (lv_sub hl [1, 2, 0] rfl)
set_option maxHeartbeats 4000000 in
set_option maxRecDepth 100000 in
theorem c_X4_isJoint (l : Launch) (D : va_G) (cI cS : ClassId) (a0 : Nat) (len att en : Int32) (n ak ap al ar : Nat) (kf : Nat → Int32) (i : Nat) (hi : i < 10) : Met l yX4_isJoint wsX4_isJoint ({ frames := 1, cells := 0, slots := 0, locals := 21 }) (ftRO D cI cS [.ref a0, .int (nI i)] [(a0, .inr (4, [.int len, .int att, .int en, .int (nI n), .ref ak, .ref ap, .ref al, .ref ar])), (ak, .inl (cI, 10, .inl kf))]) (vp_Si (fun o9 => o9 = ftB (¬ kf i = 2))) 0 0 (fun _ => False) := by
  refine Met.ofW (cc := cX4_isJoint) (maxL := 2) (ret := (some .boolean)) (by decide) rfl ?_
  intro p e s m args below meth c s₁ B hml hv
  obtain ⟨rfl, hP, hKK⟩ := hv
  have hK := hKK.1
  have hx := B.exec
  have hb := B.bytes
  have hr := B.returns
  have hts := atoms_spec (ws := wsX4_isJoint) B.pre
  have hown : s.vm.findClass RX4 = some m.cls := findClass_of_methodNamed B.named
  have hlocks := B.notSynchronized
  have hP : va_P D vwCl [(a0, .inr (4, [.int len, .int att, .int en, .int (nI n), .ref ak, .ref ap, .ref al, .ref ar])), (ak, .inl (cI, 10, .inl kf))] s.heap := hP
  have hl := lv_entry ([.ref a0, .int (nI i)]) (n := 2) (Nat.le_of_ble_eq_true rfl)
  rw [lg_entry_eq]
  generalize (lg_sl ([.ref a0, .int (nI i)]) ++ List.replicate (2 - (lg_sl ([.ref a0, .int (nI i)])).length) Slot.unset).toArray = ls at hl ⊢
  have hl : lv_has ls 2 [(0, .ref a0), (1, .int (nI i))] := hl
  refine lv_aload_n hx hb dX4_isJoint_0 rfl (lv_at hl 0 rfl) ?_
  refine va_get (D := D) (ci := 4) (v := .ref ak) (C := RX4) (T := TX4) (N := 8) hx hb hts (by decide +kernel) hown hK hP 0 rfl rfl 4 (by decide) (hts (.fieldLink RX4 9 "FiberTrace$Link" "kinds" "[I") (by decide +kernel)) (fun _ h9 => h9) rfl dX4_isJoint_1 ?_
  refine lv_iload_n hx hb dX4_isJoint_4 rfl (lv_at hl 1 rfl) ?_
  refine ft_csi (r := ftAt 10 kf (nI i)) (va_runSN (As := [.ref ak, .int (nI i)]) (rest := []) ⟨hx, hb, hml, hown, hts⟩ (c_X10_at l D cI cS ak 10 kf (nI i) (by omega)) ⟨va_cnB 2 hts gX4_isJoint_X10_at_n50 rfl rfl rfl (hKK.2 _ (List.mem_of_getElem? (i := 11) rfl)) (hts (.initialized RX10) (by decide +kernel)) (by decide +kernel) ⟨Nat.le_of_ble_eq_true rfl, Nat.le_of_ble_eq_true rfl⟩, hts (.static yX10_at) (by decide +kernel), trivial⟩ (ft_preRO hP hKK [1] rfl) rfl rfl hl.1 rfl (lv_room (Nat.le_of_ble_eq_true rfl)) dX4_isJoint_5 ⟨Nat.le_of_ble_eq_true rfl, Nat.le_of_ble_eq_true rfl⟩) ?_
  refine ft_top (y := kf i) (ftAt_N (by omega) (by omega)) ?_
  refine lv_iconst (v := 2) hx hb dX4_isJoint_8 (by decide) ?_
  refine lv_icmp_eq (tgt := 16) hx hb dX4_isJoint_9 (by decide) (fun c9 => ?_) (fun c9 => ?_)
  · refine lv_iconst (v := 0) hx hb dX4_isJoint_16 (by decide) ?_
    exact W.zret (v := 0) hx hb hr (by rfl) (fun t ht hW => ⟨0, rfl, (by show (0 : Int32) = ftB (¬ kf i = 2); first | exact (ftB_t c9).symm | exact (ftB_f (fun q => q c9)).symm), ht⟩) (fun _ h9 => absurd h9 List.not_mem_nil) dX4_isJoint_17
  · refine lv_iconst (v := 1) hx hb dX4_isJoint_12 (by decide) ?_
    refine lv_goto (tgt := 17) hx hb dX4_isJoint_13 (by decide) ?_
    exact W.zret (v := 1) hx hb hr (by rfl) (fun t ht hW => ⟨1, rfl, (by show (1 : Int32) = ftB (¬ kf i = 2); first | exact (ftB_t c9).symm | exact (ftB_f (fun q => q c9)).symm), ht⟩) (fun _ h9 => absurd h9 List.not_mem_nil) dX4_isJoint_17
set_option maxHeartbeats 4000000 in
set_option maxRecDepth 100000 in
theorem c_X4_insert (l : Launch) (D : va_G) (cI cS : ClassId) (sz : Nat) (a0 : Nat) (len att en : Int32) (n ak ap al ar : Nat) (kf pf lf rf : Nat → Int32) (k x lo re : Int32) (hn : n < 10) : Met l yX4_insert wsX4_insert ({ frames := 2, cells := 0, slots := 0, locals := 46 }) (ftRW D cI cS [.ref a0, .int k, .int x, .int lo, .int re] [(a0, .inr (4, [.int len, .int att, .int en, .int (nI n), .ref ak, .ref ap, .ref al, .ref ar])), (ak, .inl (cI, 10, .inl kf)), (ap, .inl (cI, 10, .inl pf)), (al, .inl (cI, 10, .inl lf)), (ar, .inl (cI, 10, .inl rf))] sz) (ftQi D (nI (ftIdx pf x n)) [(a0, .inr (4, [.int len, .int att, .int en, .int (nI n), .ref ak, .ref ap, .ref al, .ref ar])), (ak, .inl (cI, 10, .inl kf)), (ap, .inl (cI, 10, .inl pf)), (al, .inl (cI, 10, .inl lf)), (ar, .inl (cI, 10, .inl rf))] [(a0, .inr (4, [.int len, .int att, .int en, .int (nI (n + 1)), .ref ak, .ref ap, .ref al, .ref ar])), (ak, .inl (cI, 10, .inl (ftIns kf n (ftIdx pf x n) k))), (ap, .inl (cI, 10, .inl (ftIns pf n (ftIdx pf x n) x))), (al, .inl (cI, 10, .inl (ftIns lf n (ftIdx pf x n) lo))), (ar, .inl (cI, 10, .inl (ftIns rf n (ftIdx pf x n) re)))] sz) 0 0 (va_A [(a0, .inr (4, [.int len, .int att, .int en, .int (nI n), .ref ak, .ref ap, .ref al, .ref ar])), (ak, .inl (cI, 10, .inl kf)), (ap, .inl (cI, 10, .inl pf)), (al, .inl (cI, 10, .inl lf)), (ar, .inl (cI, 10, .inl rf))] sz) := by
  refine Met.ofW (cc := cX4_insert) (maxL := 6) (ret := (some .int)) (by decide) rfl ?_
  intro p e s m args below meth c s₁ B hml hv
  obtain ⟨rfl, hsz, hP, hKK, hD0⟩ := hv
  have hK := hKK.1
  have hx := B.exec
  have hb := B.bytes
  have hr := B.returns
  have hts := atoms_spec (ws := wsX4_insert) B.pre
  have hown : s.vm.findClass RX4 = some m.cls := findClass_of_methodNamed B.named
  have hlocks := B.notSynchronized
  subst hsz
  have hD := hD0.self (sz := s.heap.size)
  generalize hAe : va_A [(a0, .inr (4, [.int len, .int att, .int en, .int (nI n), .ref ak, .ref ap, .ref al, .ref ar])), (ak, .inl (cI, 10, .inl kf)), (ap, .inl (cI, 10, .inl pf)), (al, .inl (cI, 10, .inl lf)), (ar, .inl (cI, 10, .inl rf))] s.heap.size = A at hD ⊢
  have hA : ∀ q : Nat, s.heap.size ≤ q → A q := fun q h => by rw [← hAe]; exact Or.inr h
  have hS : va_S A s.heap s.heap [] := va_S.rf
  have hD : va_D A [(a0, .inr (4, [.int len, .int att, .int en, .int (nI n), .ref ak, .ref ap, .ref al, .ref ar])), (ak, .inl (cI, 10, .inl kf)), (ap, .inl (cI, 10, .inl pf)), (al, .inl (cI, 10, .inl lf)), (ar, .inl (cI, 10, .inl rf))] := hD
  have hP : va_P D vwCl [(a0, .inr (4, [.int len, .int att, .int en, .int (nI n), .ref ak, .ref ap, .ref al, .ref ar])), (ak, .inl (cI, 10, .inl kf)), (ap, .inl (cI, 10, .inl pf)), (al, .inl (cI, 10, .inl lf)), (ar, .inl (cI, 10, .inl rf))] s.heap := hP
  have hl := lv_entry ([.ref a0, .int k, .int x, .int lo, .int re]) (n := 6) (Nat.le_of_ble_eq_true rfl)
  rw [lg_entry_eq]
  generalize (lg_sl ([.ref a0, .int k, .int x, .int lo, .int re]) ++ List.replicate (6 - (lg_sl ([.ref a0, .int k, .int x, .int lo, .int re])).length) Slot.unset).toArray = ls at hl ⊢
  have hl : lv_has ls 6 [(0, .ref a0), (1, .int k), (2, .int x), (3, .int lo), (4, .int re)] := hl
  refine lv_iconst (v := 0) hx hb dX4_insert_0 (by decide) ?_
  refine lv_istore (lv' := [(5, .int 0), (0, .ref a0), (1, .int k), (2, .int x), (3, .int lo), (4, .int re)]) hx hb dX4_insert_1 hl (by decide) rfl (fun ls hl => ?_)
  have lp3 : ∀ (n3 : Nat) (i : Nat) (x3_5 : Int32), n - i < n3 → (i ≤ n) → (∀ t, t < i → pf t < x) → x3_5 = nI i → ∀ (H : Heap) (locs : List Loc), va_P D vwCl [(a0, .inr (4, [.int len, .int att, .int en, .int (nI n), .ref ak, .ref ap, .ref al, .ref ar])), (ak, .inl (cI, 10, .inl kf)), (ap, .inl (cI, 10, .inl pf)), (al, .inl (cI, 10, .inl lf)), (ar, .inl (cI, 10, .inl rf))] H → va_D A [(a0, .inr (4, [.int len, .int att, .int en, .int (nI n), .ref ak, .ref ap, .ref al, .ref ar])), (ak, .inl (cI, 10, .inl kf)), (ap, .inl (cI, 10, .inl pf)), (al, .inl (cI, 10, .inl lf)), (ar, .inl (cI, 10, .inl rf))] → va_S A s.heap H locs → ∀ ls : Array Slot, lv_has ls 6 [(0, .ref a0), (1, .int k), (2, .int x), (3, .int lo), (4, .int re), (5, .int x3_5)] → W p l e (headSpec wsX4_insert { frames := 2, cells := 0, slots := 0, locals := 46 }).room s m ([.ref a0, .int k, .int x, .int lo, .int re] : List Value).toArray below meth c H locs 0 0 (MQ below (ftQi D (nI (ftIdx pf x n)) [(a0, .inr (4, [.int len, .int att, .int en, .int (nI n), .ref ak, .ref ap, .ref al, .ref ar])), (ak, .inl (cI, 10, .inl kf)), (ap, .inl (cI, 10, .inl pf)), (al, .inl (cI, 10, .inl lf)), (ar, .inl (cI, 10, .inl rf))] [(a0, .inr (4, [.int len, .int att, .int en, .int (nI (n + 1)), .ref ak, .ref ap, .ref al, .ref ar])), (ak, .inl (cI, 10, .inl (ftIns kf n (ftIdx pf x n) k))), (ap, .inl (cI, 10, .inl (ftIns pf n (ftIdx pf x n) x))), (al, .inl (cI, 10, .inl (ftIns lf n (ftIdx pf x n) lo))), (ar, .inl (cI, 10, .inl (ftIns rf n (ftIdx pf x n) re)))] s.heap.size) ([.ref a0, .int k, .int x, .int lo, .int re] : List Value).toArray s 0 0 A) (F0 m 3 ls []) := by
    intro n3
    induction n3 with
    | zero =>
      intro i x3_5  hm3
      exact absurd hm3 (Nat.not_lt_zero _)
    | succ n3 ih3 =>
      intro i x3_5  hm3 hin hall ex3_5  H locs hP hD hS ls hl
      subst ex3_5
      refine lv_iload hx hb dX4_insert_3 (lv_at hl 5 rfl) ?_
      refine lv_aload_n hx hb dX4_insert_5 rfl (lv_at hl 0 rfl) ?_
      refine va_get (D := D) (ci := 4) (v := .int (nI n)) (C := RX4) (T := TX4) (N := 8) hx hb hts (by decide +kernel) hown hK hP 0 rfl rfl 3 (by decide) (hts (.fieldLink RX4 37 "FiberTrace$Link" "size" "I") (by decide +kernel)) (fun _ h9 => h9) rfl dX4_insert_6 ?_
      refine lv_icmp_ge (tgt := 31) hx hb dX4_insert_9 (by decide) (fun c9 => ?_) (fun c9 => ?_)
      · have c9n : n ≤ i := ft_leN (by omega) (by omega) c9
        have hix : ftIdx pf x n = i := ftIdx_of hin hall (fun q => absurd q (by omega))
        refine lv_aload_n hx hb dX4_insert_31 rfl (lv_at hl 0 rfl) ?_
        refine va_get (D := D) (ci := 4) (v := .ref ak) (C := RX4) (T := TX4) (N := 8) hx hb hts (by decide +kernel) hown hK hP 0 rfl rfl 4 (by decide) (hts (.fieldLink RX4 9 "FiberTrace$Link" "kinds" "[I") (by decide +kernel)) (fun _ h9 => h9) rfl dX4_insert_32 ?_
        refine lv_aload_n hx hb dX4_insert_35 rfl (lv_at hl 0 rfl) ?_
        refine va_get (D := D) (ci := 4) (v := .int (nI n)) (C := RX4) (T := TX4) (N := 8) hx hb hts (by decide +kernel) hown hK hP 0 rfl rfl 3 (by decide) (hts (.fieldLink RX4 37 "FiberTrace$Link" "size" "I") (by decide +kernel)) (fun _ h9 => h9) rfl dX4_insert_36 ?_
        refine lv_iload hx hb dX4_insert_39 (lv_at hl 5 rfl) ?_
        refine lv_iload_n hx hb dX4_insert_41 rfl (lv_at hl 1 rfl) ?_
        refine ft_cv (wc := [(ak, .inl (cI, 10, .inl kf))]) (wr := [(a0, .inr (4, [.int len, .int att, .int en, .int (nI n), .ref ak, .ref ap, .ref al, .ref ar])), (ap, .inl (cI, 10, .inl pf)), (al, .inl (cI, 10, .inl lf)), (ar, .inl (cI, 10, .inl rf))]) (w1 := [(ak, .inl (cI, 10, .inl (ftIns kf n i k)))]) (ws1 := [(a0, .inr (4, [.int len, .int att, .int en, .int (nI n), .ref ak, .ref ap, .ref al, .ref ar])), (ak, .inl (cI, 10, .inl (ftIns kf n i k))), (ap, .inl (cI, 10, .inl pf)), (al, .inl (cI, 10, .inl lf)), (ar, .inl (cI, 10, .inl rf))]) (va_runSN (As := [.ref ak, .int (nI n), .int (nI i), .int k]) (rest := []) ⟨hx, hb, hml, hown, hts⟩ (c_X10_insertInto l D cI cS H.size ak 10 kf n i k (by first | assumption | omega) (by first | assumption | omega) (by first | assumption | omega)) ⟨va_cnB 4 hts gX4_insert_X10_insertInto_n54 rfl rfl rfl (hKK.2 _ (List.mem_of_getElem? (i := 12) rfl)) (hts (.initialized RX10) (by decide +kernel)) (by decide +kernel) ⟨Nat.le_of_ble_eq_true rfl, Nat.le_of_ble_eq_true rfl⟩, hts (.static yX10_insertInto) (by decide +kernel), trivial⟩ (ft_preRW hP hD hKK [1] rfl rfl rfl) rfl rfl hl.1 rfl (lv_room (Nat.le_of_ble_eq_true rfl)) dX4_insert_42 ⟨Nat.le_of_ble_eq_true rfl, Nat.le_of_ble_eq_true rfl⟩) hP hD hS hA [1] [0, 2, 3, 4] [0, 4, 1, 2, 3] rfl rfl (by decide) (by decide) (by decide) rfl rfl (fun H locs hP hD hS => ?_)
        have hP : va_P D vwCl [(a0, .inr (4, [.int len, .int att, .int en, .int (nI n), .ref ak, .ref ap, .ref al, .ref ar])), (ak, .inl (cI, 10, .inl (ftIns kf n i k))), (ap, .inl (cI, 10, .inl pf)), (al, .inl (cI, 10, .inl lf)), (ar, .inl (cI, 10, .inl rf))] H := hP
        have hD : va_D A [(a0, .inr (4, [.int len, .int att, .int en, .int (nI n), .ref ak, .ref ap, .ref al, .ref ar])), (ak, .inl (cI, 10, .inl (ftIns kf n i k))), (ap, .inl (cI, 10, .inl pf)), (al, .inl (cI, 10, .inl lf)), (ar, .inl (cI, 10, .inl rf))] := hD
        refine lv_aload_n hx hb dX4_insert_45 rfl (lv_at hl 0 rfl) ?_
        refine va_get (D := D) (ci := 4) (v := .ref ap) (C := RX4) (T := TX4) (N := 8) hx hb hts (by decide +kernel) hown hK hP 0 rfl rfl 5 (by decide) (hts (.fieldLink RX4 15 "FiberTrace$Link" "places" "[I") (by decide +kernel)) (fun _ h9 => h9) rfl dX4_insert_46 ?_
        refine lv_aload_n hx hb dX4_insert_49 rfl (lv_at hl 0 rfl) ?_
        refine va_get (D := D) (ci := 4) (v := .int (nI n)) (C := RX4) (T := TX4) (N := 8) hx hb hts (by decide +kernel) hown hK hP 0 rfl rfl 3 (by decide) (hts (.fieldLink RX4 37 "FiberTrace$Link" "size" "I") (by decide +kernel)) (fun _ h9 => h9) rfl dX4_insert_50 ?_
        refine lv_iload hx hb dX4_insert_53 (lv_at hl 5 rfl) ?_
        refine lv_iload_n hx hb dX4_insert_55 rfl (lv_at hl 2 rfl) ?_
        refine ft_cv (wc := [(ap, .inl (cI, 10, .inl pf))]) (wr := [(a0, .inr (4, [.int len, .int att, .int en, .int (nI n), .ref ak, .ref ap, .ref al, .ref ar])), (ak, .inl (cI, 10, .inl (ftIns kf n i k))), (al, .inl (cI, 10, .inl lf)), (ar, .inl (cI, 10, .inl rf))]) (w1 := [(ap, .inl (cI, 10, .inl (ftIns pf n i x)))]) (ws1 := [(a0, .inr (4, [.int len, .int att, .int en, .int (nI n), .ref ak, .ref ap, .ref al, .ref ar])), (ak, .inl (cI, 10, .inl (ftIns kf n i k))), (ap, .inl (cI, 10, .inl (ftIns pf n i x))), (al, .inl (cI, 10, .inl lf)), (ar, .inl (cI, 10, .inl rf))]) (va_runSN (As := [.ref ap, .int (nI n), .int (nI i), .int x]) (rest := []) ⟨hx, hb, hml, hown, hts⟩ (c_X10_insertInto l D cI cS H.size ap 10 pf n i x (by first | assumption | omega) (by first | assumption | omega) (by first | assumption | omega)) ⟨va_cnB 4 hts gX4_insert_X10_insertInto_n54 rfl rfl rfl (hKK.2 _ (List.mem_of_getElem? (i := 12) rfl)) (hts (.initialized RX10) (by decide +kernel)) (by decide +kernel) ⟨Nat.le_of_ble_eq_true rfl, Nat.le_of_ble_eq_true rfl⟩, hts (.static yX10_insertInto) (by decide +kernel), trivial⟩ (ft_preRW hP hD hKK [2] rfl rfl rfl) rfl rfl hl.1 rfl (lv_room (Nat.le_of_ble_eq_true rfl)) dX4_insert_56 ⟨Nat.le_of_ble_eq_true rfl, Nat.le_of_ble_eq_true rfl⟩) hP hD hS hA [2] [0, 1, 3, 4] [0, 1, 4, 2, 3] rfl rfl (by decide) (by decide) (by decide) rfl rfl (fun H locs hP hD hS => ?_)
        have hP : va_P D vwCl [(a0, .inr (4, [.int len, .int att, .int en, .int (nI n), .ref ak, .ref ap, .ref al, .ref ar])), (ak, .inl (cI, 10, .inl (ftIns kf n i k))), (ap, .inl (cI, 10, .inl (ftIns pf n i x))), (al, .inl (cI, 10, .inl lf)), (ar, .inl (cI, 10, .inl rf))] H := hP
        have hD : va_D A [(a0, .inr (4, [.int len, .int att, .int en, .int (nI n), .ref ak, .ref ap, .ref al, .ref ar])), (ak, .inl (cI, 10, .inl (ftIns kf n i k))), (ap, .inl (cI, 10, .inl (ftIns pf n i x))), (al, .inl (cI, 10, .inl lf)), (ar, .inl (cI, 10, .inl rf))] := hD
        refine lv_aload_n hx hb dX4_insert_59 rfl (lv_at hl 0 rfl) ?_
        refine va_get (D := D) (ci := 4) (v := .ref al) (C := RX4) (T := TX4) (N := 8) hx hb hts (by decide +kernel) hown hK hP 0 rfl rfl 6 (by decide) (hts (.fieldLink RX4 18 "FiberTrace$Link" "losses" "[I") (by decide +kernel)) (fun _ h9 => h9) rfl dX4_insert_60 ?_
        refine lv_aload_n hx hb dX4_insert_63 rfl (lv_at hl 0 rfl) ?_
        refine va_get (D := D) (ci := 4) (v := .int (nI n)) (C := RX4) (T := TX4) (N := 8) hx hb hts (by decide +kernel) hown hK hP 0 rfl rfl 3 (by decide) (hts (.fieldLink RX4 37 "FiberTrace$Link" "size" "I") (by decide +kernel)) (fun _ h9 => h9) rfl dX4_insert_64 ?_
        refine lv_iload hx hb dX4_insert_67 (lv_at hl 5 rfl) ?_
        refine lv_iload_n hx hb dX4_insert_69 rfl (lv_at hl 3 rfl) ?_
        refine ft_cv (wc := [(al, .inl (cI, 10, .inl lf))]) (wr := [(a0, .inr (4, [.int len, .int att, .int en, .int (nI n), .ref ak, .ref ap, .ref al, .ref ar])), (ak, .inl (cI, 10, .inl (ftIns kf n i k))), (ap, .inl (cI, 10, .inl (ftIns pf n i x))), (ar, .inl (cI, 10, .inl rf))]) (w1 := [(al, .inl (cI, 10, .inl (ftIns lf n i lo)))]) (ws1 := [(a0, .inr (4, [.int len, .int att, .int en, .int (nI n), .ref ak, .ref ap, .ref al, .ref ar])), (ak, .inl (cI, 10, .inl (ftIns kf n i k))), (ap, .inl (cI, 10, .inl (ftIns pf n i x))), (al, .inl (cI, 10, .inl (ftIns lf n i lo))), (ar, .inl (cI, 10, .inl rf))]) (va_runSN (As := [.ref al, .int (nI n), .int (nI i), .int lo]) (rest := []) ⟨hx, hb, hml, hown, hts⟩ (c_X10_insertInto l D cI cS H.size al 10 lf n i lo (by first | assumption | omega) (by first | assumption | omega) (by first | assumption | omega)) ⟨va_cnB 4 hts gX4_insert_X10_insertInto_n54 rfl rfl rfl (hKK.2 _ (List.mem_of_getElem? (i := 12) rfl)) (hts (.initialized RX10) (by decide +kernel)) (by decide +kernel) ⟨Nat.le_of_ble_eq_true rfl, Nat.le_of_ble_eq_true rfl⟩, hts (.static yX10_insertInto) (by decide +kernel), trivial⟩ (ft_preRW hP hD hKK [3] rfl rfl rfl) rfl rfl hl.1 rfl (lv_room (Nat.le_of_ble_eq_true rfl)) dX4_insert_70 ⟨Nat.le_of_ble_eq_true rfl, Nat.le_of_ble_eq_true rfl⟩) hP hD hS hA [3] [0, 1, 2, 4] [0, 1, 2, 4, 3] rfl rfl (by decide) (by decide) (by decide) rfl rfl (fun H locs hP hD hS => ?_)
        have hP : va_P D vwCl [(a0, .inr (4, [.int len, .int att, .int en, .int (nI n), .ref ak, .ref ap, .ref al, .ref ar])), (ak, .inl (cI, 10, .inl (ftIns kf n i k))), (ap, .inl (cI, 10, .inl (ftIns pf n i x))), (al, .inl (cI, 10, .inl (ftIns lf n i lo))), (ar, .inl (cI, 10, .inl rf))] H := hP
        have hD : va_D A [(a0, .inr (4, [.int len, .int att, .int en, .int (nI n), .ref ak, .ref ap, .ref al, .ref ar])), (ak, .inl (cI, 10, .inl (ftIns kf n i k))), (ap, .inl (cI, 10, .inl (ftIns pf n i x))), (al, .inl (cI, 10, .inl (ftIns lf n i lo))), (ar, .inl (cI, 10, .inl rf))] := hD
        refine lv_aload_n hx hb dX4_insert_73 rfl (lv_at hl 0 rfl) ?_
        refine va_get (D := D) (ci := 4) (v := .ref ar) (C := RX4) (T := TX4) (N := 8) hx hb hts (by decide +kernel) hown hK hP 0 rfl rfl 7 (by decide) (hts (.fieldLink RX4 21 "FiberTrace$Link" "reflections" "[I") (by decide +kernel)) (fun _ h9 => h9) rfl dX4_insert_74 ?_
        refine lv_aload_n hx hb dX4_insert_77 rfl (lv_at hl 0 rfl) ?_
        refine va_get (D := D) (ci := 4) (v := .int (nI n)) (C := RX4) (T := TX4) (N := 8) hx hb hts (by decide +kernel) hown hK hP 0 rfl rfl 3 (by decide) (hts (.fieldLink RX4 37 "FiberTrace$Link" "size" "I") (by decide +kernel)) (fun _ h9 => h9) rfl dX4_insert_78 ?_
        refine lv_iload hx hb dX4_insert_81 (lv_at hl 5 rfl) ?_
        refine lv_iload hx hb dX4_insert_83 (lv_at hl 4 rfl) ?_
        refine ft_cv (wc := [(ar, .inl (cI, 10, .inl rf))]) (wr := [(a0, .inr (4, [.int len, .int att, .int en, .int (nI n), .ref ak, .ref ap, .ref al, .ref ar])), (ak, .inl (cI, 10, .inl (ftIns kf n i k))), (ap, .inl (cI, 10, .inl (ftIns pf n i x))), (al, .inl (cI, 10, .inl (ftIns lf n i lo)))]) (w1 := [(ar, .inl (cI, 10, .inl (ftIns rf n i re)))]) (ws1 := [(a0, .inr (4, [.int len, .int att, .int en, .int (nI n), .ref ak, .ref ap, .ref al, .ref ar])), (ak, .inl (cI, 10, .inl (ftIns kf n i k))), (ap, .inl (cI, 10, .inl (ftIns pf n i x))), (al, .inl (cI, 10, .inl (ftIns lf n i lo))), (ar, .inl (cI, 10, .inl (ftIns rf n i re)))]) (va_runSN (As := [.ref ar, .int (nI n), .int (nI i), .int re]) (rest := []) ⟨hx, hb, hml, hown, hts⟩ (c_X10_insertInto l D cI cS H.size ar 10 rf n i re (by first | assumption | omega) (by first | assumption | omega) (by first | assumption | omega)) ⟨va_cnB 4 hts gX4_insert_X10_insertInto_n54 rfl rfl rfl (hKK.2 _ (List.mem_of_getElem? (i := 12) rfl)) (hts (.initialized RX10) (by decide +kernel)) (by decide +kernel) ⟨Nat.le_of_ble_eq_true rfl, Nat.le_of_ble_eq_true rfl⟩, hts (.static yX10_insertInto) (by decide +kernel), trivial⟩ (ft_preRW hP hD hKK [4] rfl rfl rfl) rfl rfl hl.1 rfl (lv_room (Nat.le_of_ble_eq_true rfl)) dX4_insert_85 ⟨Nat.le_of_ble_eq_true rfl, Nat.le_of_ble_eq_true rfl⟩) hP hD hS hA [4] [0, 1, 2, 3] [0, 1, 2, 3, 4] rfl rfl (by decide) (by decide) (by decide) rfl rfl (fun H locs hP hD hS => ?_)
        have hP : va_P D vwCl [(a0, .inr (4, [.int len, .int att, .int en, .int (nI n), .ref ak, .ref ap, .ref al, .ref ar])), (ak, .inl (cI, 10, .inl (ftIns kf n i k))), (ap, .inl (cI, 10, .inl (ftIns pf n i x))), (al, .inl (cI, 10, .inl (ftIns lf n i lo))), (ar, .inl (cI, 10, .inl (ftIns rf n i re)))] H := hP
        have hD : va_D A [(a0, .inr (4, [.int len, .int att, .int en, .int (nI n), .ref ak, .ref ap, .ref al, .ref ar])), (ak, .inl (cI, 10, .inl (ftIns kf n i k))), (ap, .inl (cI, 10, .inl (ftIns pf n i x))), (al, .inl (cI, 10, .inl (ftIns lf n i lo))), (ar, .inl (cI, 10, .inl (ftIns rf n i re)))] := hD
        refine lv_aload_n hx hb dX4_insert_88 rfl (lv_at hl 0 rfl) ?_
        refine lv_dup hx hb dX4_insert_89 rfl ?_
        refine va_get (D := D) (ci := 4) (v := .int (nI n)) (C := RX4) (T := TX4) (N := 8) hx hb hts (by decide +kernel) hown hK hP 0 rfl rfl 3 (by decide) (hts (.fieldLink RX4 37 "FiberTrace$Link" "size" "I") (by decide +kernel)) (fun _ h9 => h9) rfl dX4_insert_90 ?_
        refine lv_iconst (v := 1) hx hb dX4_insert_93 (by decide) ?_
        refine lv_iadd hx hb dX4_insert_94 ?_
        refine ft_top (y := nI (n + 1)) (ft_addN n 1) ?_
        refine va_put (D := D) (ci := 4) (v := .int (nI (n + 1))) (ty := .int) (C := RX4) (T := TX4) (N := 8) hx hb hts (by decide +kernel) tyX4 tyX4_ok nmX4 hown hK hP hD hS 0 rfl rfl 3 (by decide) (hts (.fieldLink RX4 37 "FiberTrace$Link" "size" "I") (by decide +kernel)) (fun _ h9 => h9) rfl (by decide +kernel) rfl rfl (Nat.le_of_ble_eq_true rfl) dX4_insert_95 (fun H locs hP hD hS => ?_)
        have hP : va_P D vwCl [(a0, .inr (4, [.int len, .int att, .int en, .int (nI (n + 1)), .ref ak, .ref ap, .ref al, .ref ar])), (ak, .inl (cI, 10, .inl (ftIns kf n i k))), (ap, .inl (cI, 10, .inl (ftIns pf n i x))), (al, .inl (cI, 10, .inl (ftIns lf n i lo))), (ar, .inl (cI, 10, .inl (ftIns rf n i re)))] H := hP
        have hD : va_D A [(a0, .inr (4, [.int len, .int att, .int en, .int (nI (n + 1)), .ref ak, .ref ap, .ref al, .ref ar])), (ak, .inl (cI, 10, .inl (ftIns kf n i k))), (ap, .inl (cI, 10, .inl (ftIns pf n i x))), (al, .inl (cI, 10, .inl (ftIns lf n i lo))), (ar, .inl (cI, 10, .inl (ftIns rf n i re)))] := hD
        refine lv_iload hx hb dX4_insert_98 (lv_at hl 5 rfl) ?_
        have hw9 : ([(a0, .inr (4, [.int len, .int att, .int en, .int (nI (n + 1)), .ref ak, .ref ap, .ref al, .ref ar])), (ak, .inl (cI, 10, .inl (ftIns kf n i k))), (ap, .inl (cI, 10, .inl (ftIns pf n i x))), (al, .inl (cI, 10, .inl (ftIns lf n i lo))), (ar, .inl (cI, 10, .inl (ftIns rf n i re)))] : va_W) = [(a0, .inr (4, [.int len, .int att, .int en, .int (nI (n + 1)), .ref ak, .ref ap, .ref al, .ref ar])), (ak, .inl (cI, 10, .inl (ftIns kf n (ftIdx pf x n) k))), (ap, .inl (cI, 10, .inl (ftIns pf n (ftIdx pf x n) x))), (al, .inl (cI, 10, .inl (ftIns lf n (ftIdx pf x n) lo))), (ar, .inl (cI, 10, .inl (ftIns rf n (ftIdx pf x n) re)))] := by rw [hix]
        rw [hw9] at hP hD
        exact W.iret (v := nI i) hx hb hr (fun t ht hW => ⟨⟨nI i, (), rfl, (by show (nI i : Int32) = nI (ftIdx pf x n); rw [hix]), by rw [ht]; exact hP, by rw [hAe]; exact hD⟩, by rw [hAe]; exact hS.F ht⟩) hS.2.2 dX4_insert_100
      · have c9n : i < n := ft_nleN (by omega) (by omega) c9
        refine lv_aload_n hx hb dX4_insert_12 rfl (lv_at hl 0 rfl) ?_
        refine va_get (D := D) (ci := 4) (v := .ref ap) (C := RX4) (T := TX4) (N := 8) hx hb hts (by decide +kernel) hown hK hP 0 rfl rfl 5 (by decide) (hts (.fieldLink RX4 15 "FiberTrace$Link" "places" "[I") (by decide +kernel)) (fun _ h9 => h9) rfl dX4_insert_13 ?_
        refine lv_iload hx hb dX4_insert_16 (lv_at hl 5 rfl) ?_
        refine ft_csi (r := ftAt 10 pf (nI i)) (va_runSN (As := [.ref ap, .int (nI i)]) (rest := []) ⟨hx, hb, hml, hown, hts⟩ (c_X10_at l D cI cS ap 10 pf (nI i) (by first | assumption | omega)) ⟨va_cnB 2 hts gX4_insert_X10_at_n50 rfl rfl rfl (hKK.2 _ (List.mem_of_getElem? (i := 11) rfl)) (hts (.initialized RX10) (by decide +kernel)) (by decide +kernel) ⟨Nat.le_of_ble_eq_true rfl, Nat.le_of_ble_eq_true rfl⟩, hts (.static yX10_at) (by decide +kernel), trivial⟩ (ft_preRO hP hKK [2] rfl) rfl rfl hl.1 rfl (lv_room (Nat.le_of_ble_eq_true rfl)) dX4_insert_18 ⟨Nat.le_of_ble_eq_true rfl, Nat.le_of_ble_eq_true rfl⟩) ?_
        refine ft_top (y := pf i) (ftAt_N (by omega) (by omega)) ?_
        refine lv_iload_n hx hb dX4_insert_21 rfl (lv_at hl 2 rfl) ?_
        refine lv_icmp_ge (tgt := 31) hx hb dX4_insert_22 (by decide) (fun c22 => ?_) (fun c22 => ?_)
        · have hix : ftIdx pf x n = i := ftIdx_of hin hall (fun _ => Int32.not_lt.mpr c22)
          refine lv_aload_n hx hb dX4_insert_31 rfl (lv_at hl 0 rfl) ?_
          refine va_get (D := D) (ci := 4) (v := .ref ak) (C := RX4) (T := TX4) (N := 8) hx hb hts (by decide +kernel) hown hK hP 0 rfl rfl 4 (by decide) (hts (.fieldLink RX4 9 "FiberTrace$Link" "kinds" "[I") (by decide +kernel)) (fun _ h9 => h9) rfl dX4_insert_32 ?_
          refine lv_aload_n hx hb dX4_insert_35 rfl (lv_at hl 0 rfl) ?_
          refine va_get (D := D) (ci := 4) (v := .int (nI n)) (C := RX4) (T := TX4) (N := 8) hx hb hts (by decide +kernel) hown hK hP 0 rfl rfl 3 (by decide) (hts (.fieldLink RX4 37 "FiberTrace$Link" "size" "I") (by decide +kernel)) (fun _ h9 => h9) rfl dX4_insert_36 ?_
          refine lv_iload hx hb dX4_insert_39 (lv_at hl 5 rfl) ?_
          refine lv_iload_n hx hb dX4_insert_41 rfl (lv_at hl 1 rfl) ?_
          refine ft_cv (wc := [(ak, .inl (cI, 10, .inl kf))]) (wr := [(a0, .inr (4, [.int len, .int att, .int en, .int (nI n), .ref ak, .ref ap, .ref al, .ref ar])), (ap, .inl (cI, 10, .inl pf)), (al, .inl (cI, 10, .inl lf)), (ar, .inl (cI, 10, .inl rf))]) (w1 := [(ak, .inl (cI, 10, .inl (ftIns kf n i k)))]) (ws1 := [(a0, .inr (4, [.int len, .int att, .int en, .int (nI n), .ref ak, .ref ap, .ref al, .ref ar])), (ak, .inl (cI, 10, .inl (ftIns kf n i k))), (ap, .inl (cI, 10, .inl pf)), (al, .inl (cI, 10, .inl lf)), (ar, .inl (cI, 10, .inl rf))]) (va_runSN (As := [.ref ak, .int (nI n), .int (nI i), .int k]) (rest := []) ⟨hx, hb, hml, hown, hts⟩ (c_X10_insertInto l D cI cS H.size ak 10 kf n i k (by first | assumption | omega) (by first | assumption | omega) (by first | assumption | omega)) ⟨va_cnB 4 hts gX4_insert_X10_insertInto_n54 rfl rfl rfl (hKK.2 _ (List.mem_of_getElem? (i := 12) rfl)) (hts (.initialized RX10) (by decide +kernel)) (by decide +kernel) ⟨Nat.le_of_ble_eq_true rfl, Nat.le_of_ble_eq_true rfl⟩, hts (.static yX10_insertInto) (by decide +kernel), trivial⟩ (ft_preRW hP hD hKK [1] rfl rfl rfl) rfl rfl hl.1 rfl (lv_room (Nat.le_of_ble_eq_true rfl)) dX4_insert_42 ⟨Nat.le_of_ble_eq_true rfl, Nat.le_of_ble_eq_true rfl⟩) hP hD hS hA [1] [0, 2, 3, 4] [0, 4, 1, 2, 3] rfl rfl (by decide) (by decide) (by decide) rfl rfl (fun H locs hP hD hS => ?_)
          have hP : va_P D vwCl [(a0, .inr (4, [.int len, .int att, .int en, .int (nI n), .ref ak, .ref ap, .ref al, .ref ar])), (ak, .inl (cI, 10, .inl (ftIns kf n i k))), (ap, .inl (cI, 10, .inl pf)), (al, .inl (cI, 10, .inl lf)), (ar, .inl (cI, 10, .inl rf))] H := hP
          have hD : va_D A [(a0, .inr (4, [.int len, .int att, .int en, .int (nI n), .ref ak, .ref ap, .ref al, .ref ar])), (ak, .inl (cI, 10, .inl (ftIns kf n i k))), (ap, .inl (cI, 10, .inl pf)), (al, .inl (cI, 10, .inl lf)), (ar, .inl (cI, 10, .inl rf))] := hD
          refine lv_aload_n hx hb dX4_insert_45 rfl (lv_at hl 0 rfl) ?_
          refine va_get (D := D) (ci := 4) (v := .ref ap) (C := RX4) (T := TX4) (N := 8) hx hb hts (by decide +kernel) hown hK hP 0 rfl rfl 5 (by decide) (hts (.fieldLink RX4 15 "FiberTrace$Link" "places" "[I") (by decide +kernel)) (fun _ h9 => h9) rfl dX4_insert_46 ?_
          refine lv_aload_n hx hb dX4_insert_49 rfl (lv_at hl 0 rfl) ?_
          refine va_get (D := D) (ci := 4) (v := .int (nI n)) (C := RX4) (T := TX4) (N := 8) hx hb hts (by decide +kernel) hown hK hP 0 rfl rfl 3 (by decide) (hts (.fieldLink RX4 37 "FiberTrace$Link" "size" "I") (by decide +kernel)) (fun _ h9 => h9) rfl dX4_insert_50 ?_
          refine lv_iload hx hb dX4_insert_53 (lv_at hl 5 rfl) ?_
          refine lv_iload_n hx hb dX4_insert_55 rfl (lv_at hl 2 rfl) ?_
          refine ft_cv (wc := [(ap, .inl (cI, 10, .inl pf))]) (wr := [(a0, .inr (4, [.int len, .int att, .int en, .int (nI n), .ref ak, .ref ap, .ref al, .ref ar])), (ak, .inl (cI, 10, .inl (ftIns kf n i k))), (al, .inl (cI, 10, .inl lf)), (ar, .inl (cI, 10, .inl rf))]) (w1 := [(ap, .inl (cI, 10, .inl (ftIns pf n i x)))]) (ws1 := [(a0, .inr (4, [.int len, .int att, .int en, .int (nI n), .ref ak, .ref ap, .ref al, .ref ar])), (ak, .inl (cI, 10, .inl (ftIns kf n i k))), (ap, .inl (cI, 10, .inl (ftIns pf n i x))), (al, .inl (cI, 10, .inl lf)), (ar, .inl (cI, 10, .inl rf))]) (va_runSN (As := [.ref ap, .int (nI n), .int (nI i), .int x]) (rest := []) ⟨hx, hb, hml, hown, hts⟩ (c_X10_insertInto l D cI cS H.size ap 10 pf n i x (by first | assumption | omega) (by first | assumption | omega) (by first | assumption | omega)) ⟨va_cnB 4 hts gX4_insert_X10_insertInto_n54 rfl rfl rfl (hKK.2 _ (List.mem_of_getElem? (i := 12) rfl)) (hts (.initialized RX10) (by decide +kernel)) (by decide +kernel) ⟨Nat.le_of_ble_eq_true rfl, Nat.le_of_ble_eq_true rfl⟩, hts (.static yX10_insertInto) (by decide +kernel), trivial⟩ (ft_preRW hP hD hKK [2] rfl rfl rfl) rfl rfl hl.1 rfl (lv_room (Nat.le_of_ble_eq_true rfl)) dX4_insert_56 ⟨Nat.le_of_ble_eq_true rfl, Nat.le_of_ble_eq_true rfl⟩) hP hD hS hA [2] [0, 1, 3, 4] [0, 1, 4, 2, 3] rfl rfl (by decide) (by decide) (by decide) rfl rfl (fun H locs hP hD hS => ?_)
          have hP : va_P D vwCl [(a0, .inr (4, [.int len, .int att, .int en, .int (nI n), .ref ak, .ref ap, .ref al, .ref ar])), (ak, .inl (cI, 10, .inl (ftIns kf n i k))), (ap, .inl (cI, 10, .inl (ftIns pf n i x))), (al, .inl (cI, 10, .inl lf)), (ar, .inl (cI, 10, .inl rf))] H := hP
          have hD : va_D A [(a0, .inr (4, [.int len, .int att, .int en, .int (nI n), .ref ak, .ref ap, .ref al, .ref ar])), (ak, .inl (cI, 10, .inl (ftIns kf n i k))), (ap, .inl (cI, 10, .inl (ftIns pf n i x))), (al, .inl (cI, 10, .inl lf)), (ar, .inl (cI, 10, .inl rf))] := hD
          refine lv_aload_n hx hb dX4_insert_59 rfl (lv_at hl 0 rfl) ?_
          refine va_get (D := D) (ci := 4) (v := .ref al) (C := RX4) (T := TX4) (N := 8) hx hb hts (by decide +kernel) hown hK hP 0 rfl rfl 6 (by decide) (hts (.fieldLink RX4 18 "FiberTrace$Link" "losses" "[I") (by decide +kernel)) (fun _ h9 => h9) rfl dX4_insert_60 ?_
          refine lv_aload_n hx hb dX4_insert_63 rfl (lv_at hl 0 rfl) ?_
          refine va_get (D := D) (ci := 4) (v := .int (nI n)) (C := RX4) (T := TX4) (N := 8) hx hb hts (by decide +kernel) hown hK hP 0 rfl rfl 3 (by decide) (hts (.fieldLink RX4 37 "FiberTrace$Link" "size" "I") (by decide +kernel)) (fun _ h9 => h9) rfl dX4_insert_64 ?_
          refine lv_iload hx hb dX4_insert_67 (lv_at hl 5 rfl) ?_
          refine lv_iload_n hx hb dX4_insert_69 rfl (lv_at hl 3 rfl) ?_
          refine ft_cv (wc := [(al, .inl (cI, 10, .inl lf))]) (wr := [(a0, .inr (4, [.int len, .int att, .int en, .int (nI n), .ref ak, .ref ap, .ref al, .ref ar])), (ak, .inl (cI, 10, .inl (ftIns kf n i k))), (ap, .inl (cI, 10, .inl (ftIns pf n i x))), (ar, .inl (cI, 10, .inl rf))]) (w1 := [(al, .inl (cI, 10, .inl (ftIns lf n i lo)))]) (ws1 := [(a0, .inr (4, [.int len, .int att, .int en, .int (nI n), .ref ak, .ref ap, .ref al, .ref ar])), (ak, .inl (cI, 10, .inl (ftIns kf n i k))), (ap, .inl (cI, 10, .inl (ftIns pf n i x))), (al, .inl (cI, 10, .inl (ftIns lf n i lo))), (ar, .inl (cI, 10, .inl rf))]) (va_runSN (As := [.ref al, .int (nI n), .int (nI i), .int lo]) (rest := []) ⟨hx, hb, hml, hown, hts⟩ (c_X10_insertInto l D cI cS H.size al 10 lf n i lo (by first | assumption | omega) (by first | assumption | omega) (by first | assumption | omega)) ⟨va_cnB 4 hts gX4_insert_X10_insertInto_n54 rfl rfl rfl (hKK.2 _ (List.mem_of_getElem? (i := 12) rfl)) (hts (.initialized RX10) (by decide +kernel)) (by decide +kernel) ⟨Nat.le_of_ble_eq_true rfl, Nat.le_of_ble_eq_true rfl⟩, hts (.static yX10_insertInto) (by decide +kernel), trivial⟩ (ft_preRW hP hD hKK [3] rfl rfl rfl) rfl rfl hl.1 rfl (lv_room (Nat.le_of_ble_eq_true rfl)) dX4_insert_70 ⟨Nat.le_of_ble_eq_true rfl, Nat.le_of_ble_eq_true rfl⟩) hP hD hS hA [3] [0, 1, 2, 4] [0, 1, 2, 4, 3] rfl rfl (by decide) (by decide) (by decide) rfl rfl (fun H locs hP hD hS => ?_)
          have hP : va_P D vwCl [(a0, .inr (4, [.int len, .int att, .int en, .int (nI n), .ref ak, .ref ap, .ref al, .ref ar])), (ak, .inl (cI, 10, .inl (ftIns kf n i k))), (ap, .inl (cI, 10, .inl (ftIns pf n i x))), (al, .inl (cI, 10, .inl (ftIns lf n i lo))), (ar, .inl (cI, 10, .inl rf))] H := hP
          have hD : va_D A [(a0, .inr (4, [.int len, .int att, .int en, .int (nI n), .ref ak, .ref ap, .ref al, .ref ar])), (ak, .inl (cI, 10, .inl (ftIns kf n i k))), (ap, .inl (cI, 10, .inl (ftIns pf n i x))), (al, .inl (cI, 10, .inl (ftIns lf n i lo))), (ar, .inl (cI, 10, .inl rf))] := hD
          refine lv_aload_n hx hb dX4_insert_73 rfl (lv_at hl 0 rfl) ?_
          refine va_get (D := D) (ci := 4) (v := .ref ar) (C := RX4) (T := TX4) (N := 8) hx hb hts (by decide +kernel) hown hK hP 0 rfl rfl 7 (by decide) (hts (.fieldLink RX4 21 "FiberTrace$Link" "reflections" "[I") (by decide +kernel)) (fun _ h9 => h9) rfl dX4_insert_74 ?_
          refine lv_aload_n hx hb dX4_insert_77 rfl (lv_at hl 0 rfl) ?_
          refine va_get (D := D) (ci := 4) (v := .int (nI n)) (C := RX4) (T := TX4) (N := 8) hx hb hts (by decide +kernel) hown hK hP 0 rfl rfl 3 (by decide) (hts (.fieldLink RX4 37 "FiberTrace$Link" "size" "I") (by decide +kernel)) (fun _ h9 => h9) rfl dX4_insert_78 ?_
          refine lv_iload hx hb dX4_insert_81 (lv_at hl 5 rfl) ?_
          refine lv_iload hx hb dX4_insert_83 (lv_at hl 4 rfl) ?_
          refine ft_cv (wc := [(ar, .inl (cI, 10, .inl rf))]) (wr := [(a0, .inr (4, [.int len, .int att, .int en, .int (nI n), .ref ak, .ref ap, .ref al, .ref ar])), (ak, .inl (cI, 10, .inl (ftIns kf n i k))), (ap, .inl (cI, 10, .inl (ftIns pf n i x))), (al, .inl (cI, 10, .inl (ftIns lf n i lo)))]) (w1 := [(ar, .inl (cI, 10, .inl (ftIns rf n i re)))]) (ws1 := [(a0, .inr (4, [.int len, .int att, .int en, .int (nI n), .ref ak, .ref ap, .ref al, .ref ar])), (ak, .inl (cI, 10, .inl (ftIns kf n i k))), (ap, .inl (cI, 10, .inl (ftIns pf n i x))), (al, .inl (cI, 10, .inl (ftIns lf n i lo))), (ar, .inl (cI, 10, .inl (ftIns rf n i re)))]) (va_runSN (As := [.ref ar, .int (nI n), .int (nI i), .int re]) (rest := []) ⟨hx, hb, hml, hown, hts⟩ (c_X10_insertInto l D cI cS H.size ar 10 rf n i re (by first | assumption | omega) (by first | assumption | omega) (by first | assumption | omega)) ⟨va_cnB 4 hts gX4_insert_X10_insertInto_n54 rfl rfl rfl (hKK.2 _ (List.mem_of_getElem? (i := 12) rfl)) (hts (.initialized RX10) (by decide +kernel)) (by decide +kernel) ⟨Nat.le_of_ble_eq_true rfl, Nat.le_of_ble_eq_true rfl⟩, hts (.static yX10_insertInto) (by decide +kernel), trivial⟩ (ft_preRW hP hD hKK [4] rfl rfl rfl) rfl rfl hl.1 rfl (lv_room (Nat.le_of_ble_eq_true rfl)) dX4_insert_85 ⟨Nat.le_of_ble_eq_true rfl, Nat.le_of_ble_eq_true rfl⟩) hP hD hS hA [4] [0, 1, 2, 3] [0, 1, 2, 3, 4] rfl rfl (by decide) (by decide) (by decide) rfl rfl (fun H locs hP hD hS => ?_)
          have hP : va_P D vwCl [(a0, .inr (4, [.int len, .int att, .int en, .int (nI n), .ref ak, .ref ap, .ref al, .ref ar])), (ak, .inl (cI, 10, .inl (ftIns kf n i k))), (ap, .inl (cI, 10, .inl (ftIns pf n i x))), (al, .inl (cI, 10, .inl (ftIns lf n i lo))), (ar, .inl (cI, 10, .inl (ftIns rf n i re)))] H := hP
          have hD : va_D A [(a0, .inr (4, [.int len, .int att, .int en, .int (nI n), .ref ak, .ref ap, .ref al, .ref ar])), (ak, .inl (cI, 10, .inl (ftIns kf n i k))), (ap, .inl (cI, 10, .inl (ftIns pf n i x))), (al, .inl (cI, 10, .inl (ftIns lf n i lo))), (ar, .inl (cI, 10, .inl (ftIns rf n i re)))] := hD
          refine lv_aload_n hx hb dX4_insert_88 rfl (lv_at hl 0 rfl) ?_
          refine lv_dup hx hb dX4_insert_89 rfl ?_
          refine va_get (D := D) (ci := 4) (v := .int (nI n)) (C := RX4) (T := TX4) (N := 8) hx hb hts (by decide +kernel) hown hK hP 0 rfl rfl 3 (by decide) (hts (.fieldLink RX4 37 "FiberTrace$Link" "size" "I") (by decide +kernel)) (fun _ h9 => h9) rfl dX4_insert_90 ?_
          refine lv_iconst (v := 1) hx hb dX4_insert_93 (by decide) ?_
          refine lv_iadd hx hb dX4_insert_94 ?_
          refine ft_top (y := nI (n + 1)) (ft_addN n 1) ?_
          refine va_put (D := D) (ci := 4) (v := .int (nI (n + 1))) (ty := .int) (C := RX4) (T := TX4) (N := 8) hx hb hts (by decide +kernel) tyX4 tyX4_ok nmX4 hown hK hP hD hS 0 rfl rfl 3 (by decide) (hts (.fieldLink RX4 37 "FiberTrace$Link" "size" "I") (by decide +kernel)) (fun _ h9 => h9) rfl (by decide +kernel) rfl rfl (Nat.le_of_ble_eq_true rfl) dX4_insert_95 (fun H locs hP hD hS => ?_)
          have hP : va_P D vwCl [(a0, .inr (4, [.int len, .int att, .int en, .int (nI (n + 1)), .ref ak, .ref ap, .ref al, .ref ar])), (ak, .inl (cI, 10, .inl (ftIns kf n i k))), (ap, .inl (cI, 10, .inl (ftIns pf n i x))), (al, .inl (cI, 10, .inl (ftIns lf n i lo))), (ar, .inl (cI, 10, .inl (ftIns rf n i re)))] H := hP
          have hD : va_D A [(a0, .inr (4, [.int len, .int att, .int en, .int (nI (n + 1)), .ref ak, .ref ap, .ref al, .ref ar])), (ak, .inl (cI, 10, .inl (ftIns kf n i k))), (ap, .inl (cI, 10, .inl (ftIns pf n i x))), (al, .inl (cI, 10, .inl (ftIns lf n i lo))), (ar, .inl (cI, 10, .inl (ftIns rf n i re)))] := hD
          refine lv_iload hx hb dX4_insert_98 (lv_at hl 5 rfl) ?_
          have hw9 : ([(a0, .inr (4, [.int len, .int att, .int en, .int (nI (n + 1)), .ref ak, .ref ap, .ref al, .ref ar])), (ak, .inl (cI, 10, .inl (ftIns kf n i k))), (ap, .inl (cI, 10, .inl (ftIns pf n i x))), (al, .inl (cI, 10, .inl (ftIns lf n i lo))), (ar, .inl (cI, 10, .inl (ftIns rf n i re)))] : va_W) = [(a0, .inr (4, [.int len, .int att, .int en, .int (nI (n + 1)), .ref ak, .ref ap, .ref al, .ref ar])), (ak, .inl (cI, 10, .inl (ftIns kf n (ftIdx pf x n) k))), (ap, .inl (cI, 10, .inl (ftIns pf n (ftIdx pf x n) x))), (al, .inl (cI, 10, .inl (ftIns lf n (ftIdx pf x n) lo))), (ar, .inl (cI, 10, .inl (ftIns rf n (ftIdx pf x n) re)))] := by rw [hix]
          rw [hw9] at hP hD
          exact W.iret (v := nI i) hx hb hr (fun t ht hW => ⟨⟨nI i, (), rfl, (by show (nI i : Int32) = nI (ftIdx pf x n); rw [hix]), by rw [ht]; exact hP, by rw [hAe]; exact hD⟩, by rw [hAe]; exact hS.F ht⟩) hS.2.2 dX4_insert_100
        · refine lv_iinc (v := nI (i + 1)) (lv' := [(5, .int (nI (i + 1))), (0, .ref a0), (1, .int k), (2, .int x), (3, .int lo), (4, .int re)]) hx hb dX4_insert_25 hl (k := 5) rfl (ft_inc i) (by decide) rfl (fun ls hl => ?_)
          refine lv_goto (tgt := 3) hx hb dX4_insert_28 (by decide) ?_
          exact ih3 (i + 1) (nI (i + 1))  (by omega) (by omega) (by intro t ht; rcases Nat.lt_succ_iff_lt_or_eq.mp ht with r | r; exact hall t r; subst r; exact Int32.not_le.mp c22) (by first | rfl | assumption)  _ _ hP hD hS ls (lv_sub hl [1, 2, 3, 4, 5, 0] rfl)
  exact lp3 _ 0 0  (Nat.lt_succ_self _) (by omega) (by intro t ht; omega) (by rfl) _ _ hP hD hS ls (lv_sub hl [1, 2, 3, 4, 5, 0] rfl)
set_option maxHeartbeats 4000000 in
set_option maxRecDepth 100000 in
theorem c_X4_drop (l : Launch) (D : va_G) (cI cS : ClassId) (sz : Nat) (a0 : Nat) (len att en : Int32) (n ak ap al ar : Nat) (kf pf lf rf : Nat → Int32) (k : Nat) (hn : n ≤ 10) (hk : k < n) : Met l yX4_drop wsX4_drop ({ frames := 2, cells := 0, slots := 0, locals := 45 }) (ftRW D cI cS [.ref a0, .int (nI k)] [(a0, .inr (4, [.int len, .int att, .int en, .int (nI n), .ref ak, .ref ap, .ref al, .ref ar])), (ak, .inl (cI, 10, .inl kf)), (ap, .inl (cI, 10, .inl pf)), (al, .inl (cI, 10, .inl lf)), (ar, .inl (cI, 10, .inl rf))] sz) (ftQi D (nI (n - 1)) [(a0, .inr (4, [.int len, .int att, .int en, .int (nI n), .ref ak, .ref ap, .ref al, .ref ar])), (ak, .inl (cI, 10, .inl kf)), (ap, .inl (cI, 10, .inl pf)), (al, .inl (cI, 10, .inl lf)), (ar, .inl (cI, 10, .inl rf))] [(a0, .inr (4, [.int len, .int att, .int en, .int (nI (n - 1)), .ref ak, .ref ap, .ref al, .ref ar])), (ak, .inl (cI, 10, .inl (ftRem kf n k))), (ap, .inl (cI, 10, .inl (ftRem pf n k))), (al, .inl (cI, 10, .inl (ftRem lf n k))), (ar, .inl (cI, 10, .inl (ftRem rf n k)))] sz) 0 0 (va_A [(a0, .inr (4, [.int len, .int att, .int en, .int (nI n), .ref ak, .ref ap, .ref al, .ref ar])), (ak, .inl (cI, 10, .inl kf)), (ap, .inl (cI, 10, .inl pf)), (al, .inl (cI, 10, .inl lf)), (ar, .inl (cI, 10, .inl rf))] sz) := by
  refine Met.ofW (cc := cX4_drop) (maxL := 2) (ret := (some .int)) (by decide) rfl ?_
  intro p e s m args below meth c s₁ B hml hv
  obtain ⟨rfl, hsz, hP, hKK, hD0⟩ := hv
  have hK := hKK.1
  have hx := B.exec
  have hb := B.bytes
  have hr := B.returns
  have hts := atoms_spec (ws := wsX4_drop) B.pre
  have hown : s.vm.findClass RX4 = some m.cls := findClass_of_methodNamed B.named
  have hlocks := B.notSynchronized
  subst hsz
  have hD := hD0.self (sz := s.heap.size)
  generalize hAe : va_A [(a0, .inr (4, [.int len, .int att, .int en, .int (nI n), .ref ak, .ref ap, .ref al, .ref ar])), (ak, .inl (cI, 10, .inl kf)), (ap, .inl (cI, 10, .inl pf)), (al, .inl (cI, 10, .inl lf)), (ar, .inl (cI, 10, .inl rf))] s.heap.size = A at hD ⊢
  have hA : ∀ q : Nat, s.heap.size ≤ q → A q := fun q h => by rw [← hAe]; exact Or.inr h
  have hS : va_S A s.heap s.heap [] := va_S.rf
  have hD : va_D A [(a0, .inr (4, [.int len, .int att, .int en, .int (nI n), .ref ak, .ref ap, .ref al, .ref ar])), (ak, .inl (cI, 10, .inl kf)), (ap, .inl (cI, 10, .inl pf)), (al, .inl (cI, 10, .inl lf)), (ar, .inl (cI, 10, .inl rf))] := hD
  have hP : va_P D vwCl [(a0, .inr (4, [.int len, .int att, .int en, .int (nI n), .ref ak, .ref ap, .ref al, .ref ar])), (ak, .inl (cI, 10, .inl kf)), (ap, .inl (cI, 10, .inl pf)), (al, .inl (cI, 10, .inl lf)), (ar, .inl (cI, 10, .inl rf))] s.heap := hP
  have hl := lv_entry ([.ref a0, .int (nI k)]) (n := 2) (Nat.le_of_ble_eq_true rfl)
  rw [lg_entry_eq]
  generalize (lg_sl ([.ref a0, .int (nI k)]) ++ List.replicate (2 - (lg_sl ([.ref a0, .int (nI k)])).length) Slot.unset).toArray = ls at hl ⊢
  have hl : lv_has ls 2 [(0, .ref a0), (1, .int (nI k))] := hl
  refine lv_aload_n hx hb dX4_drop_0 rfl (lv_at hl 0 rfl) ?_
  refine va_get (D := D) (ci := 4) (v := .ref ak) (C := RX4) (T := TX4) (N := 8) hx hb hts (by decide +kernel) hown hK hP 0 rfl rfl 4 (by decide) (hts (.fieldLink RX4 9 "FiberTrace$Link" "kinds" "[I") (by decide +kernel)) (fun _ h9 => h9) rfl dX4_drop_1 ?_
  refine lv_aload_n hx hb dX4_drop_4 rfl (lv_at hl 0 rfl) ?_
  refine va_get (D := D) (ci := 4) (v := .int (nI n)) (C := RX4) (T := TX4) (N := 8) hx hb hts (by decide +kernel) hown hK hP 0 rfl rfl 3 (by decide) (hts (.fieldLink RX4 37 "FiberTrace$Link" "size" "I") (by decide +kernel)) (fun _ h9 => h9) rfl dX4_drop_5 ?_
  refine lv_iload_n hx hb dX4_drop_8 rfl (lv_at hl 1 rfl) ?_
  refine ft_cv (wc := [(ak, .inl (cI, 10, .inl kf))]) (wr := [(a0, .inr (4, [.int len, .int att, .int en, .int (nI n), .ref ak, .ref ap, .ref al, .ref ar])), (ap, .inl (cI, 10, .inl pf)), (al, .inl (cI, 10, .inl lf)), (ar, .inl (cI, 10, .inl rf))]) (w1 := [(ak, .inl (cI, 10, .inl (ftRem kf n k)))]) (ws1 := [(a0, .inr (4, [.int len, .int att, .int en, .int (nI n), .ref ak, .ref ap, .ref al, .ref ar])), (ak, .inl (cI, 10, .inl (ftRem kf n k))), (ap, .inl (cI, 10, .inl pf)), (al, .inl (cI, 10, .inl lf)), (ar, .inl (cI, 10, .inl rf))]) (va_runSN (As := [.ref ak, .int (nI n), .int (nI k)]) (rest := []) ⟨hx, hb, hml, hown, hts⟩ (c_X10_removeFrom l D cI cS s.heap.size ak 10 kf n k (by first | assumption | omega) (by first | assumption | omega) (by first | assumption | omega)) ⟨va_cnB 3 hts gX4_drop_X10_removeFrom_n58 rfl rfl rfl (hKK.2 _ (List.mem_of_getElem? (i := 13) rfl)) (hts (.initialized RX10) (by decide +kernel)) (by decide +kernel) ⟨Nat.le_of_ble_eq_true rfl, Nat.le_of_ble_eq_true rfl⟩, hts (.static yX10_removeFrom) (by decide +kernel), trivial⟩ (ft_preRW hP hD hKK [1] rfl rfl rfl) rfl rfl hl.1 rfl (lv_room (Nat.le_of_ble_eq_true rfl)) dX4_drop_9 ⟨Nat.le_of_ble_eq_true rfl, Nat.le_of_ble_eq_true rfl⟩) hP hD hS hA [1] [0, 2, 3, 4] [0, 4, 1, 2, 3] rfl rfl (by decide) (by decide) (by decide) rfl rfl (fun H locs hP hD hS => ?_)
  have hP : va_P D vwCl [(a0, .inr (4, [.int len, .int att, .int en, .int (nI n), .ref ak, .ref ap, .ref al, .ref ar])), (ak, .inl (cI, 10, .inl (ftRem kf n k))), (ap, .inl (cI, 10, .inl pf)), (al, .inl (cI, 10, .inl lf)), (ar, .inl (cI, 10, .inl rf))] H := hP
  have hD : va_D A [(a0, .inr (4, [.int len, .int att, .int en, .int (nI n), .ref ak, .ref ap, .ref al, .ref ar])), (ak, .inl (cI, 10, .inl (ftRem kf n k))), (ap, .inl (cI, 10, .inl pf)), (al, .inl (cI, 10, .inl lf)), (ar, .inl (cI, 10, .inl rf))] := hD
  refine lv_aload_n hx hb dX4_drop_12 rfl (lv_at hl 0 rfl) ?_
  refine va_get (D := D) (ci := 4) (v := .ref ap) (C := RX4) (T := TX4) (N := 8) hx hb hts (by decide +kernel) hown hK hP 0 rfl rfl 5 (by decide) (hts (.fieldLink RX4 15 "FiberTrace$Link" "places" "[I") (by decide +kernel)) (fun _ h9 => h9) rfl dX4_drop_13 ?_
  refine lv_aload_n hx hb dX4_drop_16 rfl (lv_at hl 0 rfl) ?_
  refine va_get (D := D) (ci := 4) (v := .int (nI n)) (C := RX4) (T := TX4) (N := 8) hx hb hts (by decide +kernel) hown hK hP 0 rfl rfl 3 (by decide) (hts (.fieldLink RX4 37 "FiberTrace$Link" "size" "I") (by decide +kernel)) (fun _ h9 => h9) rfl dX4_drop_17 ?_
  refine lv_iload_n hx hb dX4_drop_20 rfl (lv_at hl 1 rfl) ?_
  refine ft_cv (wc := [(ap, .inl (cI, 10, .inl pf))]) (wr := [(a0, .inr (4, [.int len, .int att, .int en, .int (nI n), .ref ak, .ref ap, .ref al, .ref ar])), (ak, .inl (cI, 10, .inl (ftRem kf n k))), (al, .inl (cI, 10, .inl lf)), (ar, .inl (cI, 10, .inl rf))]) (w1 := [(ap, .inl (cI, 10, .inl (ftRem pf n k)))]) (ws1 := [(a0, .inr (4, [.int len, .int att, .int en, .int (nI n), .ref ak, .ref ap, .ref al, .ref ar])), (ak, .inl (cI, 10, .inl (ftRem kf n k))), (ap, .inl (cI, 10, .inl (ftRem pf n k))), (al, .inl (cI, 10, .inl lf)), (ar, .inl (cI, 10, .inl rf))]) (va_runSN (As := [.ref ap, .int (nI n), .int (nI k)]) (rest := []) ⟨hx, hb, hml, hown, hts⟩ (c_X10_removeFrom l D cI cS H.size ap 10 pf n k (by first | assumption | omega) (by first | assumption | omega) (by first | assumption | omega)) ⟨va_cnB 3 hts gX4_drop_X10_removeFrom_n58 rfl rfl rfl (hKK.2 _ (List.mem_of_getElem? (i := 13) rfl)) (hts (.initialized RX10) (by decide +kernel)) (by decide +kernel) ⟨Nat.le_of_ble_eq_true rfl, Nat.le_of_ble_eq_true rfl⟩, hts (.static yX10_removeFrom) (by decide +kernel), trivial⟩ (ft_preRW hP hD hKK [2] rfl rfl rfl) rfl rfl hl.1 rfl (lv_room (Nat.le_of_ble_eq_true rfl)) dX4_drop_21 ⟨Nat.le_of_ble_eq_true rfl, Nat.le_of_ble_eq_true rfl⟩) hP hD hS hA [2] [0, 1, 3, 4] [0, 1, 4, 2, 3] rfl rfl (by decide) (by decide) (by decide) rfl rfl (fun H locs hP hD hS => ?_)
  have hP : va_P D vwCl [(a0, .inr (4, [.int len, .int att, .int en, .int (nI n), .ref ak, .ref ap, .ref al, .ref ar])), (ak, .inl (cI, 10, .inl (ftRem kf n k))), (ap, .inl (cI, 10, .inl (ftRem pf n k))), (al, .inl (cI, 10, .inl lf)), (ar, .inl (cI, 10, .inl rf))] H := hP
  have hD : va_D A [(a0, .inr (4, [.int len, .int att, .int en, .int (nI n), .ref ak, .ref ap, .ref al, .ref ar])), (ak, .inl (cI, 10, .inl (ftRem kf n k))), (ap, .inl (cI, 10, .inl (ftRem pf n k))), (al, .inl (cI, 10, .inl lf)), (ar, .inl (cI, 10, .inl rf))] := hD
  refine lv_aload_n hx hb dX4_drop_24 rfl (lv_at hl 0 rfl) ?_
  refine va_get (D := D) (ci := 4) (v := .ref al) (C := RX4) (T := TX4) (N := 8) hx hb hts (by decide +kernel) hown hK hP 0 rfl rfl 6 (by decide) (hts (.fieldLink RX4 18 "FiberTrace$Link" "losses" "[I") (by decide +kernel)) (fun _ h9 => h9) rfl dX4_drop_25 ?_
  refine lv_aload_n hx hb dX4_drop_28 rfl (lv_at hl 0 rfl) ?_
  refine va_get (D := D) (ci := 4) (v := .int (nI n)) (C := RX4) (T := TX4) (N := 8) hx hb hts (by decide +kernel) hown hK hP 0 rfl rfl 3 (by decide) (hts (.fieldLink RX4 37 "FiberTrace$Link" "size" "I") (by decide +kernel)) (fun _ h9 => h9) rfl dX4_drop_29 ?_
  refine lv_iload_n hx hb dX4_drop_32 rfl (lv_at hl 1 rfl) ?_
  refine ft_cv (wc := [(al, .inl (cI, 10, .inl lf))]) (wr := [(a0, .inr (4, [.int len, .int att, .int en, .int (nI n), .ref ak, .ref ap, .ref al, .ref ar])), (ak, .inl (cI, 10, .inl (ftRem kf n k))), (ap, .inl (cI, 10, .inl (ftRem pf n k))), (ar, .inl (cI, 10, .inl rf))]) (w1 := [(al, .inl (cI, 10, .inl (ftRem lf n k)))]) (ws1 := [(a0, .inr (4, [.int len, .int att, .int en, .int (nI n), .ref ak, .ref ap, .ref al, .ref ar])), (ak, .inl (cI, 10, .inl (ftRem kf n k))), (ap, .inl (cI, 10, .inl (ftRem pf n k))), (al, .inl (cI, 10, .inl (ftRem lf n k))), (ar, .inl (cI, 10, .inl rf))]) (va_runSN (As := [.ref al, .int (nI n), .int (nI k)]) (rest := []) ⟨hx, hb, hml, hown, hts⟩ (c_X10_removeFrom l D cI cS H.size al 10 lf n k (by first | assumption | omega) (by first | assumption | omega) (by first | assumption | omega)) ⟨va_cnB 3 hts gX4_drop_X10_removeFrom_n58 rfl rfl rfl (hKK.2 _ (List.mem_of_getElem? (i := 13) rfl)) (hts (.initialized RX10) (by decide +kernel)) (by decide +kernel) ⟨Nat.le_of_ble_eq_true rfl, Nat.le_of_ble_eq_true rfl⟩, hts (.static yX10_removeFrom) (by decide +kernel), trivial⟩ (ft_preRW hP hD hKK [3] rfl rfl rfl) rfl rfl hl.1 rfl (lv_room (Nat.le_of_ble_eq_true rfl)) dX4_drop_33 ⟨Nat.le_of_ble_eq_true rfl, Nat.le_of_ble_eq_true rfl⟩) hP hD hS hA [3] [0, 1, 2, 4] [0, 1, 2, 4, 3] rfl rfl (by decide) (by decide) (by decide) rfl rfl (fun H locs hP hD hS => ?_)
  have hP : va_P D vwCl [(a0, .inr (4, [.int len, .int att, .int en, .int (nI n), .ref ak, .ref ap, .ref al, .ref ar])), (ak, .inl (cI, 10, .inl (ftRem kf n k))), (ap, .inl (cI, 10, .inl (ftRem pf n k))), (al, .inl (cI, 10, .inl (ftRem lf n k))), (ar, .inl (cI, 10, .inl rf))] H := hP
  have hD : va_D A [(a0, .inr (4, [.int len, .int att, .int en, .int (nI n), .ref ak, .ref ap, .ref al, .ref ar])), (ak, .inl (cI, 10, .inl (ftRem kf n k))), (ap, .inl (cI, 10, .inl (ftRem pf n k))), (al, .inl (cI, 10, .inl (ftRem lf n k))), (ar, .inl (cI, 10, .inl rf))] := hD
  refine lv_aload_n hx hb dX4_drop_36 rfl (lv_at hl 0 rfl) ?_
  refine va_get (D := D) (ci := 4) (v := .ref ar) (C := RX4) (T := TX4) (N := 8) hx hb hts (by decide +kernel) hown hK hP 0 rfl rfl 7 (by decide) (hts (.fieldLink RX4 21 "FiberTrace$Link" "reflections" "[I") (by decide +kernel)) (fun _ h9 => h9) rfl dX4_drop_37 ?_
  refine lv_aload_n hx hb dX4_drop_40 rfl (lv_at hl 0 rfl) ?_
  refine va_get (D := D) (ci := 4) (v := .int (nI n)) (C := RX4) (T := TX4) (N := 8) hx hb hts (by decide +kernel) hown hK hP 0 rfl rfl 3 (by decide) (hts (.fieldLink RX4 37 "FiberTrace$Link" "size" "I") (by decide +kernel)) (fun _ h9 => h9) rfl dX4_drop_41 ?_
  refine lv_iload_n hx hb dX4_drop_44 rfl (lv_at hl 1 rfl) ?_
  refine ft_cv (wc := [(ar, .inl (cI, 10, .inl rf))]) (wr := [(a0, .inr (4, [.int len, .int att, .int en, .int (nI n), .ref ak, .ref ap, .ref al, .ref ar])), (ak, .inl (cI, 10, .inl (ftRem kf n k))), (ap, .inl (cI, 10, .inl (ftRem pf n k))), (al, .inl (cI, 10, .inl (ftRem lf n k)))]) (w1 := [(ar, .inl (cI, 10, .inl (ftRem rf n k)))]) (ws1 := [(a0, .inr (4, [.int len, .int att, .int en, .int (nI n), .ref ak, .ref ap, .ref al, .ref ar])), (ak, .inl (cI, 10, .inl (ftRem kf n k))), (ap, .inl (cI, 10, .inl (ftRem pf n k))), (al, .inl (cI, 10, .inl (ftRem lf n k))), (ar, .inl (cI, 10, .inl (ftRem rf n k)))]) (va_runSN (As := [.ref ar, .int (nI n), .int (nI k)]) (rest := []) ⟨hx, hb, hml, hown, hts⟩ (c_X10_removeFrom l D cI cS H.size ar 10 rf n k (by first | assumption | omega) (by first | assumption | omega) (by first | assumption | omega)) ⟨va_cnB 3 hts gX4_drop_X10_removeFrom_n58 rfl rfl rfl (hKK.2 _ (List.mem_of_getElem? (i := 13) rfl)) (hts (.initialized RX10) (by decide +kernel)) (by decide +kernel) ⟨Nat.le_of_ble_eq_true rfl, Nat.le_of_ble_eq_true rfl⟩, hts (.static yX10_removeFrom) (by decide +kernel), trivial⟩ (ft_preRW hP hD hKK [4] rfl rfl rfl) rfl rfl hl.1 rfl (lv_room (Nat.le_of_ble_eq_true rfl)) dX4_drop_45 ⟨Nat.le_of_ble_eq_true rfl, Nat.le_of_ble_eq_true rfl⟩) hP hD hS hA [4] [0, 1, 2, 3] [0, 1, 2, 3, 4] rfl rfl (by decide) (by decide) (by decide) rfl rfl (fun H locs hP hD hS => ?_)
  have hP : va_P D vwCl [(a0, .inr (4, [.int len, .int att, .int en, .int (nI n), .ref ak, .ref ap, .ref al, .ref ar])), (ak, .inl (cI, 10, .inl (ftRem kf n k))), (ap, .inl (cI, 10, .inl (ftRem pf n k))), (al, .inl (cI, 10, .inl (ftRem lf n k))), (ar, .inl (cI, 10, .inl (ftRem rf n k)))] H := hP
  have hD : va_D A [(a0, .inr (4, [.int len, .int att, .int en, .int (nI n), .ref ak, .ref ap, .ref al, .ref ar])), (ak, .inl (cI, 10, .inl (ftRem kf n k))), (ap, .inl (cI, 10, .inl (ftRem pf n k))), (al, .inl (cI, 10, .inl (ftRem lf n k))), (ar, .inl (cI, 10, .inl (ftRem rf n k)))] := hD
  refine lv_aload_n hx hb dX4_drop_48 rfl (lv_at hl 0 rfl) ?_
  refine lv_dup hx hb dX4_drop_49 rfl ?_
  refine va_get (D := D) (ci := 4) (v := .int (nI n)) (C := RX4) (T := TX4) (N := 8) hx hb hts (by decide +kernel) hown hK hP 0 rfl rfl 3 (by decide) (hts (.fieldLink RX4 37 "FiberTrace$Link" "size" "I") (by decide +kernel)) (fun _ h9 => h9) rfl dX4_drop_50 ?_
  refine lv_iconst (v := 1) hx hb dX4_drop_53 (by decide) ?_
  refine lv_isub hx hb dX4_drop_54 ?_
  refine ft_top (y := nI (n - 1)) (ft_subN (a := n) (b := 1) (by omega)) ?_
  refine va_put (D := D) (ci := 4) (v := .int (nI (n - 1))) (ty := .int) (C := RX4) (T := TX4) (N := 8) hx hb hts (by decide +kernel) tyX4 tyX4_ok nmX4 hown hK hP hD hS 0 rfl rfl 3 (by decide) (hts (.fieldLink RX4 37 "FiberTrace$Link" "size" "I") (by decide +kernel)) (fun _ h9 => h9) rfl (by decide +kernel) rfl rfl (Nat.le_of_ble_eq_true rfl) dX4_drop_55 (fun H locs hP hD hS => ?_)
  have hP : va_P D vwCl [(a0, .inr (4, [.int len, .int att, .int en, .int (nI (n - 1)), .ref ak, .ref ap, .ref al, .ref ar])), (ak, .inl (cI, 10, .inl (ftRem kf n k))), (ap, .inl (cI, 10, .inl (ftRem pf n k))), (al, .inl (cI, 10, .inl (ftRem lf n k))), (ar, .inl (cI, 10, .inl (ftRem rf n k)))] H := hP
  have hD : va_D A [(a0, .inr (4, [.int len, .int att, .int en, .int (nI (n - 1)), .ref ak, .ref ap, .ref al, .ref ar])), (ak, .inl (cI, 10, .inl (ftRem kf n k))), (ap, .inl (cI, 10, .inl (ftRem pf n k))), (al, .inl (cI, 10, .inl (ftRem lf n k))), (ar, .inl (cI, 10, .inl (ftRem rf n k)))] := hD
  refine lv_aload_n hx hb dX4_drop_58 rfl (lv_at hl 0 rfl) ?_
  refine va_get (D := D) (ci := 4) (v := .int (nI (n - 1))) (C := RX4) (T := TX4) (N := 8) hx hb hts (by decide +kernel) hown hK hP 0 rfl rfl 3 (by decide) (hts (.fieldLink RX4 37 "FiberTrace$Link" "size" "I") (by decide +kernel)) (fun _ h9 => h9) rfl dX4_drop_59 ?_
  have hw9 : ([(a0, .inr (4, [.int len, .int att, .int en, .int (nI (n - 1)), .ref ak, .ref ap, .ref al, .ref ar])), (ak, .inl (cI, 10, .inl (ftRem kf n k))), (ap, .inl (cI, 10, .inl (ftRem pf n k))), (al, .inl (cI, 10, .inl (ftRem lf n k))), (ar, .inl (cI, 10, .inl (ftRem rf n k)))] : va_W) = [(a0, .inr (4, [.int len, .int att, .int en, .int (nI (n - 1)), .ref ak, .ref ap, .ref al, .ref ar])), (ak, .inl (cI, 10, .inl (ftRem kf n k))), (ap, .inl (cI, 10, .inl (ftRem pf n k))), (al, .inl (cI, 10, .inl (ftRem lf n k))), (ar, .inl (cI, 10, .inl (ftRem rf n k)))] := rfl
  rw [hw9] at hP hD
  exact W.iret (v := nI (n - 1)) hx hb hr (fun t ht hW => ⟨⟨nI (n - 1), (), rfl, rfl, by rw [ht]; exact hP, by rw [hAe]; exact hD⟩, by rw [hAe]; exact hS.F ht⟩) hS.2.2 dX4_drop_62
set_option maxHeartbeats 4000000 in
set_option maxRecDepth 100000 in
theorem c_X4_attenuationUpTo (l : Launch) (D : va_G) (cI cS : ClassId) (a0 : Nat) (len att en : Int32) (n ak ap al ar : Nat) (kf pf lf : Nat → Int32) (P : Nat → Nat) (X : Nat) (hpp : ftPos pf n P) (hX : X ≤ 1000) : Met l yX4_attenuationUpTo wsX4_attenuationUpTo ({ frames := 1, cells := 0, slots := 0, locals := 21 }) (ftRO D cI cS [.ref a0, .int (nI X)] [(a0, .inr (4, [.int len, .int att, .int en, .int (nI n), .ref ak, .ref ap, .ref al, .ref ar])), (ak, .inl (cI, 10, .inl kf)), (ap, .inl (cI, 10, .inl pf)), (al, .inl (cI, 10, .inl lf))]) (vp_Si (fun o9 => o9 = ftFades kf pf lf att n X)) 0 0 (fun _ => False) := by
  refine Met.ofW (cc := cX4_attenuationUpTo) (maxL := 6) (ret := (some .int)) (by decide) rfl ?_
  intro p e s m args below meth c s₁ B hml hv
  obtain ⟨rfl, hP, hKK⟩ := hv
  have hK := hKK.1
  have hx := B.exec
  have hb := B.bytes
  have hr := B.returns
  have hts := atoms_spec (ws := wsX4_attenuationUpTo) B.pre
  have hown : s.vm.findClass RX4 = some m.cls := findClass_of_methodNamed B.named
  have hlocks := B.notSynchronized
  have hP : va_P D vwCl [(a0, .inr (4, [.int len, .int att, .int en, .int (nI n), .ref ak, .ref ap, .ref al, .ref ar])), (ak, .inl (cI, 10, .inl kf)), (ap, .inl (cI, 10, .inl pf)), (al, .inl (cI, 10, .inl lf))] s.heap := hP
  have hl := lv_entry ([.ref a0, .int (nI X)]) (n := 6) (Nat.le_of_ble_eq_true rfl)
  rw [lg_entry_eq]
  generalize (lg_sl ([.ref a0, .int (nI X)]) ++ List.replicate (6 - (lg_sl ([.ref a0, .int (nI X)])).length) Slot.unset).toArray = ls at hl ⊢
  have hl : lv_has ls 6 [(0, .ref a0), (1, .int (nI X))] := hl
  have hn := hpp.1
  refine lv_iconst (v := 0) hx hb dX4_attenuationUpTo_0 (by decide) ?_
  refine lv_istore_n (lv' := [(2, .int 0), (0, .ref a0), (1, .int (nI X))]) hx hb dX4_attenuationUpTo_1 rfl hl (by decide) rfl (fun ls hl => ?_)
  refine lv_aload_n hx hb dX4_attenuationUpTo_2 rfl (lv_at hl 1 rfl) ?_
  refine va_get (D := D) (ci := 4) (v := .int att) (C := RX4) (T := TX4) (N := 8) hx hb hts (by decide +kernel) hown hK hP 0 rfl rfl 1 (by decide) (hts (.fieldLink RX4 31 "FiberTrace$Link" "attenuation" "I") (by decide +kernel)) (fun _ h9 => h9) rfl dX4_attenuationUpTo_3 ?_
  refine lv_istore_n (lv' := [(3, .int att), (2, .int 0), (0, .ref a0), (1, .int (nI X))]) hx hb dX4_attenuationUpTo_6 rfl hl (by decide) rfl (fun ls hl => ?_)
  refine lv_iconst (v := 0) hx hb dX4_attenuationUpTo_7 (by decide) ?_
  refine lv_istore (lv' := [(4, .int 0), (3, .int att), (2, .int 0), (0, .ref a0), (1, .int (nI X))]) hx hb dX4_attenuationUpTo_8 hl (by decide) rfl (fun ls hl => ?_)
  refine lv_iconst (v := 0) hx hb dX4_attenuationUpTo_10 (by decide) ?_
  refine lv_istore (lv' := [(5, .int 0), (4, .int 0), (3, .int att), (2, .int 0), (0, .ref a0), (1, .int (nI X))]) hx hb dX4_attenuationUpTo_11 hl (by decide) rfl (fun ls hl => ?_)
  have lp13 : ∀ (n13 : Nat) (i F : Nat) (su ra : Int32) (x13_2 : Int32) (x13_3 : Int32) (x13_4 : Int32) (x13_5 : Int32), n - i < n13 → (i ≤ n) → (F ≤ X) → (∀ t, i ≤ t → t < n → F ≤ P t) → (∀ Y, F ≤ Y → Y ≤ 1000 → su + ra * (nI Y - nI F) = ftFades kf pf lf att i Y) → x13_2 = su → x13_3 = ra → x13_4 = nI F → x13_5 = nI i → ∀ ls : Array Slot, lv_has ls 6 [(0, .ref a0), (1, .int (nI X)), (2, .int x13_2), (3, .int x13_3), (4, .int x13_4), (5, .int x13_5)] → W p l e (headSpec wsX4_attenuationUpTo { frames := 1, cells := 0, slots := 0, locals := 21 }).room s m ([.ref a0, .int (nI X)] : List Value).toArray below meth c s.heap [] 0 0 (MQ below (vp_Si (fun o9 => o9 = ftFades kf pf lf att n X)) ([.ref a0, .int (nI X)] : List Value).toArray s 0 0 (fun _ => False)) (F0 m 13 ls []) := by
    intro n13
    induction n13 with
    | zero =>
      intro i F su ra x13_2 x13_3 x13_4 x13_5  hm13
      exact absurd hm13 (Nat.not_lt_zero _)
    | succ n13 ih13 =>
      intro i F su ra x13_2 x13_3 x13_4 x13_5  hm13 hin hFX hFP hF ex13_2 ex13_3 ex13_4 ex13_5  ls hl
      replace ex13_2 := ex13_2.symm; subst ex13_2
      replace ex13_3 := ex13_3.symm; subst ex13_3
      subst ex13_4
      subst ex13_5
      refine lv_iload hx hb dX4_attenuationUpTo_13 (lv_at hl 5 rfl) ?_
      refine lv_aload_n hx hb dX4_attenuationUpTo_15 rfl (lv_at hl 0 rfl) ?_
      refine va_get (D := D) (ci := 4) (v := .int (nI n)) (C := RX4) (T := TX4) (N := 8) hx hb hts (by decide +kernel) hown hK hP 0 rfl rfl 3 (by decide) (hts (.fieldLink RX4 37 "FiberTrace$Link" "size" "I") (by decide +kernel)) (fun _ h9 => h9) rfl dX4_attenuationUpTo_16 ?_
      refine lv_icmp_ge (tgt := 92) hx hb dX4_attenuationUpTo_19 (by decide) (fun c19 => ?_) (fun c19 => ?_)
      · have c19n : n ≤ i := ft_leN (by omega) (by omega) c19
        refine lv_iload_n hx hb dX4_attenuationUpTo_92 rfl (lv_at hl 2 rfl) ?_
        refine lv_iload_n hx hb dX4_attenuationUpTo_93 rfl (lv_at hl 3 rfl) ?_
        refine lv_iload_n hx hb dX4_attenuationUpTo_94 rfl (lv_at hl 1 rfl) ?_
        refine lv_iload hx hb dX4_attenuationUpTo_95 (lv_at hl 4 rfl) ?_
        refine lv_isub hx hb dX4_attenuationUpTo_97 ?_
        refine lv_imul hx hb dX4_attenuationUpTo_98 ?_
        refine lv_iadd hx hb dX4_attenuationUpTo_99 ?_
        exact W.iret (v := su + (ra * ((nI X) - (nI F)))) hx hb hr (fun t ht hW => ⟨su + (ra * ((nI X) - (nI F))), rfl, (by show (su + (ra * ((nI X) - (nI F))) : Int32) = ftFades kf pf lf att n X; first | exact (hF X hFX hX).trans (ftFades_rest hpp hin hX (fun q => absurd q (by omega))).symm | exact (hF X hFX hX).trans (ftFades_rest hpp hin hX (fun q => by omega)).symm), ht⟩) (fun _ h9 => absurd h9 List.not_mem_nil) dX4_attenuationUpTo_100
      · have c19n : i < n := ft_nleN (by omega) (by omega) c19
        have hPi := hpp.2.2.1 i (by omega)
        refine lv_aload_n hx hb dX4_attenuationUpTo_22 rfl (lv_at hl 0 rfl) ?_
        refine va_get (D := D) (ci := 4) (v := .ref ap) (C := RX4) (T := TX4) (N := 8) hx hb hts (by decide +kernel) hown hK hP 0 rfl rfl 5 (by decide) (hts (.fieldLink RX4 15 "FiberTrace$Link" "places" "[I") (by decide +kernel)) (fun _ h9 => h9) rfl dX4_attenuationUpTo_23 ?_
        refine lv_iload hx hb dX4_attenuationUpTo_26 (lv_at hl 5 rfl) ?_
        refine ft_csi (r := ftAt 10 pf (nI i)) (va_runSN (As := [.ref ap, .int (nI i)]) (rest := []) ⟨hx, hb, hml, hown, hts⟩ (c_X10_at l D cI cS ap 10 pf (nI i) (by first | assumption | omega)) ⟨va_cnB 2 hts gX4_attenuationUpTo_X10_at_n50 rfl rfl rfl (hKK.2 _ (List.mem_of_getElem? (i := 11) rfl)) (hts (.initialized RX10) (by decide +kernel)) (by decide +kernel) ⟨Nat.le_of_ble_eq_true rfl, Nat.le_of_ble_eq_true rfl⟩, hts (.static yX10_at) (by decide +kernel), trivial⟩ (ft_preRO hP hKK [2] rfl) rfl rfl hl.1 rfl (lv_room (Nat.le_of_ble_eq_true rfl)) dX4_attenuationUpTo_28 ⟨Nat.le_of_ble_eq_true rfl, Nat.le_of_ble_eq_true rfl⟩) ?_
        refine ft_top (y := pf i) (ftAt_N (by omega) (by omega)) ?_
        refine ft_top (y := nI (P i)) (hpp.2.1 i (by omega)) ?_
        refine lv_iload_n hx hb dX4_attenuationUpTo_31 rfl (lv_at hl 1 rfl) ?_
        refine lv_icmp_ge (tgt := 92) hx hb dX4_attenuationUpTo_32 (by decide) (fun c32 => ?_) (fun c32 => ?_)
        · have c32n : X ≤ (P i) := ft_leN (by omega) (by omega) c32
          refine lv_iload_n hx hb dX4_attenuationUpTo_92 rfl (lv_at hl 2 rfl) ?_
          refine lv_iload_n hx hb dX4_attenuationUpTo_93 rfl (lv_at hl 3 rfl) ?_
          refine lv_iload_n hx hb dX4_attenuationUpTo_94 rfl (lv_at hl 1 rfl) ?_
          refine lv_iload hx hb dX4_attenuationUpTo_95 (lv_at hl 4 rfl) ?_
          refine lv_isub hx hb dX4_attenuationUpTo_97 ?_
          refine lv_imul hx hb dX4_attenuationUpTo_98 ?_
          refine lv_iadd hx hb dX4_attenuationUpTo_99 ?_
          exact W.iret (v := su + (ra * ((nI X) - (nI F)))) hx hb hr (fun t ht hW => ⟨su + (ra * ((nI X) - (nI F))), rfl, (by show (su + (ra * ((nI X) - (nI F))) : Int32) = ftFades kf pf lf att n X; first | exact (hF X hFX hX).trans (ftFades_rest hpp hin hX (fun q => absurd q (by omega))).symm | exact (hF X hFX hX).trans (ftFades_rest hpp hin hX (fun q => by omega)).symm), ht⟩) (fun _ h9 => absurd h9 List.not_mem_nil) dX4_attenuationUpTo_100
        · have c32n : (P i) < X := ft_nleN (by omega) (by omega) c32
          refine lv_aload_n hx hb dX4_attenuationUpTo_35 rfl (lv_at hl 0 rfl) ?_
          refine va_get (D := D) (ci := 4) (v := .ref ak) (C := RX4) (T := TX4) (N := 8) hx hb hts (by decide +kernel) hown hK hP 0 rfl rfl 4 (by decide) (hts (.fieldLink RX4 9 "FiberTrace$Link" "kinds" "[I") (by decide +kernel)) (fun _ h9 => h9) rfl dX4_attenuationUpTo_36 ?_
          refine lv_iload hx hb dX4_attenuationUpTo_39 (lv_at hl 5 rfl) ?_
          refine ft_csi (r := ftAt 10 kf (nI i)) (va_runSN (As := [.ref ak, .int (nI i)]) (rest := []) ⟨hx, hb, hml, hown, hts⟩ (c_X10_at l D cI cS ak 10 kf (nI i) (by first | assumption | omega)) ⟨va_cnB 2 hts gX4_attenuationUpTo_X10_at_n50 rfl rfl rfl (hKK.2 _ (List.mem_of_getElem? (i := 11) rfl)) (hts (.initialized RX10) (by decide +kernel)) (by decide +kernel) ⟨Nat.le_of_ble_eq_true rfl, Nat.le_of_ble_eq_true rfl⟩, hts (.static yX10_at) (by decide +kernel), trivial⟩ (ft_preRO hP hKK [1] rfl) rfl rfl hl.1 rfl (lv_room (Nat.le_of_ble_eq_true rfl)) dX4_attenuationUpTo_41 ⟨Nat.le_of_ble_eq_true rfl, Nat.le_of_ble_eq_true rfl⟩) ?_
          refine ft_top (y := kf i) (ftAt_N (by omega) (by omega)) ?_
          refine lv_iconst (v := 2) hx hb dX4_attenuationUpTo_44 (by decide) ?_
          refine lv_icmp_ne (tgt := 86) hx hb dX4_attenuationUpTo_45 (by decide) (fun c45 => ?_) (fun c45 => ?_)
          · refine lv_iinc (v := nI (i + 1)) (lv' := [(5, .int (nI (i + 1))), (0, .ref a0), (1, .int (nI X)), (2, .int su), (3, .int ra), (4, .int (nI F))]) hx hb dX4_attenuationUpTo_86 hl (k := 5) rfl (ft_inc i) (by decide) rfl (fun ls hl => ?_)
            refine lv_goto (tgt := 13) hx hb dX4_attenuationUpTo_89 (by decide) ?_
            exact ih13 (i + 1) F su ra su ra (nI F) (nI (i + 1))  (by omega) (by omega) (by omega) (by intro t h1 h2; have h3 := hpp.2.2.2 i t (by omega) h2; have h4 := hFP i (by omega) (by omega); omega) (by first | (intro Y h1 h2; rw [hF (P i) (hFP i (by omega) (by omega)) (by omega)]; exact ftFades_change c45 (hpp.2.1 i (by omega)) hPi h1 h2) | (intro Y h1 h2; rw [hF Y h1 h2]; exact ftSum_congr (fun x _ => (ftFade_skip c45).symm))) (by first | rfl | assumption) (by first | rfl | assumption) (by first | rfl | assumption) (by first | rfl | assumption)  ls (lv_sub hl [1, 2, 3, 4, 5, 0] rfl)
          · refine lv_iload_n hx hb dX4_attenuationUpTo_48 rfl (lv_at hl 2 rfl) ?_
            refine lv_iload_n hx hb dX4_attenuationUpTo_49 rfl (lv_at hl 3 rfl) ?_
            refine lv_aload_n hx hb dX4_attenuationUpTo_50 rfl (lv_at hl 0 rfl) ?_
            refine va_get (D := D) (ci := 4) (v := .ref ap) (C := RX4) (T := TX4) (N := 8) hx hb hts (by decide +kernel) hown hK hP 0 rfl rfl 5 (by decide) (hts (.fieldLink RX4 15 "FiberTrace$Link" "places" "[I") (by decide +kernel)) (fun _ h9 => h9) rfl dX4_attenuationUpTo_51 ?_
            refine lv_iload hx hb dX4_attenuationUpTo_54 (lv_at hl 5 rfl) ?_
            refine ft_csi (r := ftAt 10 pf (nI i)) (va_runSN (As := [.ref ap, .int (nI i)]) (rest := [.int ra, .int su]) ⟨hx, hb, hml, hown, hts⟩ (c_X10_at l D cI cS ap 10 pf (nI i) (by first | assumption | omega)) ⟨va_cnB 2 hts gX4_attenuationUpTo_X10_at_n50 rfl rfl rfl (hKK.2 _ (List.mem_of_getElem? (i := 11) rfl)) (hts (.initialized RX10) (by decide +kernel)) (by decide +kernel) ⟨Nat.le_of_ble_eq_true rfl, Nat.le_of_ble_eq_true rfl⟩, hts (.static yX10_at) (by decide +kernel), trivial⟩ (ft_preRO hP hKK [2] rfl) rfl rfl hl.1 rfl (lv_room (Nat.le_of_ble_eq_true rfl)) dX4_attenuationUpTo_56 ⟨Nat.le_of_ble_eq_true rfl, Nat.le_of_ble_eq_true rfl⟩) ?_
            refine ft_top (y := pf i) (ftAt_N (by omega) (by omega)) ?_
            refine ft_top (y := nI (P i)) (hpp.2.1 i (by omega)) ?_
            refine lv_iload hx hb dX4_attenuationUpTo_59 (lv_at hl 4 rfl) ?_
            refine lv_isub hx hb dX4_attenuationUpTo_61 ?_
            refine lv_imul hx hb dX4_attenuationUpTo_62 ?_
            refine lv_iadd hx hb dX4_attenuationUpTo_63 ?_
            refine lv_istore_n (lv' := [(2, .int (su + (ra * ((nI (P i)) - (nI F))))), (0, .ref a0), (1, .int (nI X)), (3, .int ra), (4, .int (nI F)), (5, .int (nI i))]) hx hb dX4_attenuationUpTo_64 rfl hl (by decide) rfl (fun ls hl => ?_)
            refine lv_aload_n hx hb dX4_attenuationUpTo_65 rfl (lv_at hl 1 rfl) ?_
            refine va_get (D := D) (ci := 4) (v := .ref ap) (C := RX4) (T := TX4) (N := 8) hx hb hts (by decide +kernel) hown hK hP 0 rfl rfl 5 (by decide) (hts (.fieldLink RX4 15 "FiberTrace$Link" "places" "[I") (by decide +kernel)) (fun _ h9 => h9) rfl dX4_attenuationUpTo_66 ?_
            refine lv_iload hx hb dX4_attenuationUpTo_69 (lv_at hl 5 rfl) ?_
            refine ft_csi (r := ftAt 10 pf (nI i)) (va_runSN (As := [.ref ap, .int (nI i)]) (rest := []) ⟨hx, hb, hml, hown, hts⟩ (c_X10_at l D cI cS ap 10 pf (nI i) (by first | assumption | omega)) ⟨va_cnB 2 hts gX4_attenuationUpTo_X10_at_n50 rfl rfl rfl (hKK.2 _ (List.mem_of_getElem? (i := 11) rfl)) (hts (.initialized RX10) (by decide +kernel)) (by decide +kernel) ⟨Nat.le_of_ble_eq_true rfl, Nat.le_of_ble_eq_true rfl⟩, hts (.static yX10_at) (by decide +kernel), trivial⟩ (ft_preRO hP hKK [2] rfl) rfl rfl hl.1 rfl (lv_room (Nat.le_of_ble_eq_true rfl)) dX4_attenuationUpTo_71 ⟨Nat.le_of_ble_eq_true rfl, Nat.le_of_ble_eq_true rfl⟩) ?_
            refine ft_top (y := pf i) (ftAt_N (by omega) (by omega)) ?_
            refine ft_top (y := nI (P i)) (hpp.2.1 i (by omega)) ?_
            refine lv_istore (lv' := [(4, .int (nI (P i))), (2, .int (su + (ra * ((nI (P i)) - (nI F))))), (0, .ref a0), (1, .int (nI X)), (3, .int ra), (5, .int (nI i))]) hx hb dX4_attenuationUpTo_74 hl (by decide) rfl (fun ls hl => ?_)
            refine lv_aload_n hx hb dX4_attenuationUpTo_76 rfl (lv_at hl 2 rfl) ?_
            refine va_get (D := D) (ci := 4) (v := .ref al) (C := RX4) (T := TX4) (N := 8) hx hb hts (by decide +kernel) hown hK hP 0 rfl rfl 6 (by decide) (hts (.fieldLink RX4 18 "FiberTrace$Link" "losses" "[I") (by decide +kernel)) (fun _ h9 => h9) rfl dX4_attenuationUpTo_77 ?_
            refine lv_iload hx hb dX4_attenuationUpTo_80 (lv_at hl 5 rfl) ?_
            refine ft_csi (r := ftAt 10 lf (nI i)) (va_runSN (As := [.ref al, .int (nI i)]) (rest := []) ⟨hx, hb, hml, hown, hts⟩ (c_X10_at l D cI cS al 10 lf (nI i) (by first | assumption | omega)) ⟨va_cnB 2 hts gX4_attenuationUpTo_X10_at_n50 rfl rfl rfl (hKK.2 _ (List.mem_of_getElem? (i := 11) rfl)) (hts (.initialized RX10) (by decide +kernel)) (by decide +kernel) ⟨Nat.le_of_ble_eq_true rfl, Nat.le_of_ble_eq_true rfl⟩, hts (.static yX10_at) (by decide +kernel), trivial⟩ (ft_preRO hP hKK [3] rfl) rfl rfl hl.1 rfl (lv_room (Nat.le_of_ble_eq_true rfl)) dX4_attenuationUpTo_82 ⟨Nat.le_of_ble_eq_true rfl, Nat.le_of_ble_eq_true rfl⟩) ?_
            refine ft_top (y := lf i) (ftAt_N (by omega) (by omega)) ?_
            refine lv_istore_n (lv' := [(3, .int (lf i)), (4, .int (nI (P i))), (2, .int (su + (ra * ((nI (P i)) - (nI F))))), (0, .ref a0), (1, .int (nI X)), (5, .int (nI i))]) hx hb dX4_attenuationUpTo_85 rfl hl (by decide) rfl (fun ls hl => ?_)
            refine lv_iinc (v := nI (i + 1)) (lv' := [(5, .int (nI (i + 1))), (3, .int (lf i)), (4, .int (nI (P i))), (2, .int (su + (ra * ((nI (P i)) - (nI F))))), (0, .ref a0), (1, .int (nI X))]) hx hb dX4_attenuationUpTo_86 hl (k := 5) rfl (ft_inc i) (by decide) rfl (fun ls hl => ?_)
            refine lv_goto (tgt := 13) hx hb dX4_attenuationUpTo_89 (by decide) ?_
            exact ih13 (i + 1) (P i) (su + (ra * ((nI (P i)) - (nI F)))) (lf i) (su + (ra * ((nI (P i)) - (nI F)))) (lf i) (nI (P i)) (nI (i + 1))  (by omega) (by omega) (by omega) (by intro t h1 h2; have h3 := hpp.2.2.2 i t (by omega) h2; have h4 := hFP i (by omega) (by omega); omega) (by first | (intro Y h1 h2; rw [hF (P i) (hFP i (by omega) (by omega)) (by omega)]; exact ftFades_change c45 (hpp.2.1 i (by omega)) hPi h1 h2) | (intro Y h1 h2; rw [hF Y h1 h2]; exact ftSum_congr (fun x _ => (ftFade_skip c45).symm))) (by first | rfl | assumption) (by first | rfl | assumption) (by first | rfl | assumption) (by first | rfl | assumption)  ls (lv_sub hl [4, 5, 3, 1, 2, 0] rfl)
  exact lp13 _ 0 0 0 att 0 att 0 0  (Nat.lt_succ_self _) (by omega) (by omega) (by intro t h1 h2; omega) (by intro Y h1 h2; exact ftFades_0 kf pf lf att Y) (by rfl) (by rfl) (by rfl) (by rfl) ls (lv_sub hl [4, 5, 3, 2, 1, 0] rfl)
set_option maxHeartbeats 4000000 in
set_option maxRecDepth 100000 in
theorem c_X4_lossUpTo (l : Launch) (D : va_G) (cI cS : ClassId) (a0 : Nat) (len att en : Int32) (n ak ap al ar : Nat) (kf pf lf : Nat → Int32) (P : Nat → Nat) (X : Nat) (hpp : ftPos pf n P) (hX : X ≤ 1000) : Met l yX4_lossUpTo wsX4_lossUpTo ({ frames := 2, cells := 0, slots := 0, locals := 46 }) (ftRO D cI cS [.ref a0, .int (nI X)] [(a0, .inr (4, [.int len, .int att, .int en, .int (nI n), .ref ak, .ref ap, .ref al, .ref ar])), (ak, .inl (cI, 10, .inl kf)), (ap, .inl (cI, 10, .inl pf)), (al, .inl (cI, 10, .inl lf))]) (vp_Si (fun o9 => o9 = ftFades kf pf lf att n X + ftJoints kf pf lf (nI X) n)) 0 0 (fun _ => False) := by
  refine Met.ofW (cc := cX4_lossUpTo) (maxL := 4) (ret := (some .int)) (by decide) rfl ?_
  intro p e s m args below meth c s₁ B hml hv
  obtain ⟨rfl, hP, hKK⟩ := hv
  have hK := hKK.1
  have hx := B.exec
  have hb := B.bytes
  have hr := B.returns
  have hts := atoms_spec (ws := wsX4_lossUpTo) B.pre
  have hown : s.vm.findClass RX4 = some m.cls := findClass_of_methodNamed B.named
  have hlocks := B.notSynchronized
  have hP : va_P D vwCl [(a0, .inr (4, [.int len, .int att, .int en, .int (nI n), .ref ak, .ref ap, .ref al, .ref ar])), (ak, .inl (cI, 10, .inl kf)), (ap, .inl (cI, 10, .inl pf)), (al, .inl (cI, 10, .inl lf))] s.heap := hP
  have hl := lv_entry ([.ref a0, .int (nI X)]) (n := 4) (Nat.le_of_ble_eq_true rfl)
  rw [lg_entry_eq]
  generalize (lg_sl ([.ref a0, .int (nI X)]) ++ List.replicate (4 - (lg_sl ([.ref a0, .int (nI X)])).length) Slot.unset).toArray = ls at hl ⊢
  have hl : lv_has ls 4 [(0, .ref a0), (1, .int (nI X))] := hl
  have hn := hpp.1
  refine lv_aload_n hx hb dX4_lossUpTo_0 rfl (lv_at hl 0 rfl) ?_
  refine lv_iload_n hx hb dX4_lossUpTo_1 rfl (lv_at hl 1 rfl) ?_
  refine ft_csi (r := ftFades kf pf lf att n X) (va_runV (C := RX4) (As := [.int (nI X)]) (rest := []) ⟨hx, hb, hml, hown, hts⟩ (c_X4_attenuationUpTo l D cI cS a0 len att en n ak ap al ar kf pf lf P X (by first | assumption | omega) (by first | assumption | omega)) (cwV 1 hts gX4_lossUpTo_X4_attenuationUpTo rfl rfl rfl (by decide +kernel) ⟨Nat.le_of_ble_eq_true rfl, Nat.le_of_ble_eq_true rfl⟩) (ft_preROV (ci := 4) (q0 := 0) hP hKK [0, 1, 2, 3] rfl rfl rfl) rfl rfl hl.1 rfl (lv_room (Nat.le_of_ble_eq_true rfl)) dX4_lossUpTo_2 ⟨Nat.le_of_ble_eq_true rfl, Nat.le_of_ble_eq_true rfl⟩) ?_
  refine lv_istore_n (lv' := [(2, .int (ftFades kf pf lf att n X)), (0, .ref a0), (1, .int (nI X))]) hx hb dX4_lossUpTo_5 rfl hl (by decide) rfl (fun ls hl => ?_)
  refine lv_iconst (v := 0) hx hb dX4_lossUpTo_6 (by decide) ?_
  refine lv_istore_n (lv' := [(3, .int 0), (2, .int (ftFades kf pf lf att n X)), (0, .ref a0), (1, .int (nI X))]) hx hb dX4_lossUpTo_7 rfl hl (by decide) rfl (fun ls hl => ?_)
  have lp8 : ∀ (n8 : Nat) (i : Nat) (x8_2 : Int32) (x8_3 : Int32), n - i < n8 → (i ≤ n) → x8_2 = ftFades kf pf lf att n X + ftJoints kf pf lf (nI X) i → x8_3 = nI i → ∀ ls : Array Slot, lv_has ls 4 [(0, .ref a0), (1, .int (nI X)), (2, .int x8_2), (3, .int x8_3)] → W p l e (headSpec wsX4_lossUpTo { frames := 2, cells := 0, slots := 0, locals := 46 }).room s m ([.ref a0, .int (nI X)] : List Value).toArray below meth c s.heap [] 0 0 (MQ below (vp_Si (fun o9 => o9 = ftFades kf pf lf att n X + ftJoints kf pf lf (nI X) n)) ([.ref a0, .int (nI X)] : List Value).toArray s 0 0 (fun _ => False)) (F0 m 8 ls []) := by
    intro n8
    induction n8 with
    | zero =>
      intro i x8_2 x8_3  hm8
      exact absurd hm8 (Nat.not_lt_zero _)
    | succ n8 ih8 =>
      intro i x8_2 x8_3  hm8 hin ex8_2 ex8_3  ls hl
      subst ex8_3
      refine lv_iload_n hx hb dX4_lossUpTo_8 rfl (lv_at hl 3 rfl) ?_
      refine lv_aload_n hx hb dX4_lossUpTo_9 rfl (lv_at hl 0 rfl) ?_
      refine va_get (D := D) (ci := 4) (v := .int (nI n)) (C := RX4) (T := TX4) (N := 8) hx hb hts (by decide +kernel) hown hK hP 0 rfl rfl 3 (by decide) (hts (.fieldLink RX4 37 "FiberTrace$Link" "size" "I") (by decide +kernel)) (fun _ h9 => h9) rfl dX4_lossUpTo_10 ?_
      refine lv_icmp_ge (tgt := 53) hx hb dX4_lossUpTo_13 (by decide) (fun c13 => ?_) (fun c13 => ?_)
      · have c13n : n ≤ i := ft_leN (by omega) (by omega) c13
        refine lv_iload_n hx hb dX4_lossUpTo_53 rfl (lv_at hl 2 rfl) ?_
        exact W.iret (v := x8_2) hx hb hr (fun t ht hW => ⟨x8_2, rfl, (by show (x8_2 : Int32) = ftFades kf pf lf att n X + ftJoints kf pf lf (nI X) n; (obtain rfl : i = n := by omega); exact ex8_2), ht⟩) (fun _ h9 => absurd h9 List.not_mem_nil) dX4_lossUpTo_54
      · have c13n : i < n := ft_nleN (by omega) (by omega) c13
        refine lv_aload_n hx hb dX4_lossUpTo_16 rfl (lv_at hl 0 rfl) ?_
        refine lv_iload_n hx hb dX4_lossUpTo_17 rfl (lv_at hl 3 rfl) ?_
        refine ft_csi (r := ftB (¬ kf i = 2)) (va_runV (C := RX4) (As := [.int (nI i)]) (rest := []) ⟨hx, hb, hml, hown, hts⟩ (c_X4_isJoint l D cI cS a0 len att en n ak ap al ar kf i (by first | assumption | omega)) (cwV 1 hts gX4_lossUpTo_X4_isJoint rfl rfl rfl (by decide +kernel) ⟨Nat.le_of_ble_eq_true rfl, Nat.le_of_ble_eq_true rfl⟩) (ft_preROV (ci := 4) (q0 := 0) hP hKK [0, 1] rfl rfl rfl) rfl rfl hl.1 rfl (lv_room (Nat.le_of_ble_eq_true rfl)) dX4_lossUpTo_18 ⟨Nat.le_of_ble_eq_true rfl, Nat.le_of_ble_eq_true rfl⟩) ?_
        refine lv_if_eq (tgt := 47) hx hb dX4_lossUpTo_21 (by decide) (fun c21 => ?_) (fun c21 => ?_)
        · replace c21 := ftB_eq c21
          have h9 : (if ¬ kf i = 2 ∧ pf i < nI X then lf i else 0) = 0 := if_neg (fun q => c21 q.1)
          refine lv_iinc (v := nI (i + 1)) (lv' := [(3, .int (nI (i + 1))), (0, .ref a0), (1, .int (nI X)), (2, .int x8_2)]) hx hb dX4_lossUpTo_47 hl (k := 3) rfl (ft_inc i) (by decide) rfl (fun ls hl => ?_)
          refine lv_goto (tgt := 8) hx hb dX4_lossUpTo_50 (by decide) ?_
          exact ih8 (i + 1) x8_2 (nI (i + 1))  (by omega) (by omega) (by show _ = ftFades kf pf lf att n X + (ftJoints kf pf lf (nI X) i + (if ¬ kf i = 2 ∧ pf i < nI X then lf i else 0)); first | (rw [h9, ex8_2, Int32.add_assoc]; done) | (rw [h9, Int32.add_zero]; exact ex8_2)) (by first | rfl | assumption)  ls (lv_sub hl [1, 2, 3, 0] rfl)
        · replace c21 := ftB_ne c21
          refine lv_aload_n hx hb dX4_lossUpTo_24 rfl (lv_at hl 0 rfl) ?_
          refine va_get (D := D) (ci := 4) (v := .ref ap) (C := RX4) (T := TX4) (N := 8) hx hb hts (by decide +kernel) hown hK hP 0 rfl rfl 5 (by decide) (hts (.fieldLink RX4 15 "FiberTrace$Link" "places" "[I") (by decide +kernel)) (fun _ h9 => h9) rfl dX4_lossUpTo_25 ?_
          refine lv_iload_n hx hb dX4_lossUpTo_28 rfl (lv_at hl 3 rfl) ?_
          refine ft_csi (r := ftAt 10 pf (nI i)) (va_runSN (As := [.ref ap, .int (nI i)]) (rest := []) ⟨hx, hb, hml, hown, hts⟩ (c_X10_at l D cI cS ap 10 pf (nI i) (by first | assumption | omega)) ⟨va_cnB 2 hts gX4_lossUpTo_X10_at_n50 rfl rfl rfl (hKK.2 _ (List.mem_of_getElem? (i := 11) rfl)) (hts (.initialized RX10) (by decide +kernel)) (by decide +kernel) ⟨Nat.le_of_ble_eq_true rfl, Nat.le_of_ble_eq_true rfl⟩, hts (.static yX10_at) (by decide +kernel), trivial⟩ (ft_preRO hP hKK [2] rfl) rfl rfl hl.1 rfl (lv_room (Nat.le_of_ble_eq_true rfl)) dX4_lossUpTo_29 ⟨Nat.le_of_ble_eq_true rfl, Nat.le_of_ble_eq_true rfl⟩) ?_
          refine ft_top (y := pf i) (ftAt_N (by omega) (by omega)) ?_
          refine lv_iload_n hx hb dX4_lossUpTo_32 rfl (lv_at hl 1 rfl) ?_
          refine lv_icmp_ge (tgt := 47) hx hb dX4_lossUpTo_33 (by decide) (fun c33 => ?_) (fun c33 => ?_)
          · have h9 : (if ¬ kf i = 2 ∧ pf i < nI X then lf i else 0) = 0 := if_neg (fun q => Int32.not_le.mpr q.2 c33)
            refine lv_iinc (v := nI (i + 1)) (lv' := [(3, .int (nI (i + 1))), (0, .ref a0), (1, .int (nI X)), (2, .int x8_2)]) hx hb dX4_lossUpTo_47 hl (k := 3) rfl (ft_inc i) (by decide) rfl (fun ls hl => ?_)
            refine lv_goto (tgt := 8) hx hb dX4_lossUpTo_50 (by decide) ?_
            exact ih8 (i + 1) x8_2 (nI (i + 1))  (by omega) (by omega) (by show _ = ftFades kf pf lf att n X + (ftJoints kf pf lf (nI X) i + (if ¬ kf i = 2 ∧ pf i < nI X then lf i else 0)); first | (rw [h9, ex8_2, Int32.add_assoc]; done) | (rw [h9, Int32.add_zero]; exact ex8_2)) (by first | rfl | assumption)  ls (lv_sub hl [1, 2, 3, 0] rfl)
          · have h9 : (if ¬ kf i = 2 ∧ pf i < nI X then lf i else 0) = lf i := if_pos ⟨c21, Int32.not_le.mp c33⟩
            refine lv_iload_n hx hb dX4_lossUpTo_36 rfl (lv_at hl 2 rfl) ?_
            refine lv_aload_n hx hb dX4_lossUpTo_37 rfl (lv_at hl 0 rfl) ?_
            refine va_get (D := D) (ci := 4) (v := .ref al) (C := RX4) (T := TX4) (N := 8) hx hb hts (by decide +kernel) hown hK hP 0 rfl rfl 6 (by decide) (hts (.fieldLink RX4 18 "FiberTrace$Link" "losses" "[I") (by decide +kernel)) (fun _ h9 => h9) rfl dX4_lossUpTo_38 ?_
            refine lv_iload_n hx hb dX4_lossUpTo_41 rfl (lv_at hl 3 rfl) ?_
            refine ft_csi (r := ftAt 10 lf (nI i)) (va_runSN (As := [.ref al, .int (nI i)]) (rest := [.int x8_2]) ⟨hx, hb, hml, hown, hts⟩ (c_X10_at l D cI cS al 10 lf (nI i) (by first | assumption | omega)) ⟨va_cnB 2 hts gX4_lossUpTo_X10_at_n50 rfl rfl rfl (hKK.2 _ (List.mem_of_getElem? (i := 11) rfl)) (hts (.initialized RX10) (by decide +kernel)) (by decide +kernel) ⟨Nat.le_of_ble_eq_true rfl, Nat.le_of_ble_eq_true rfl⟩, hts (.static yX10_at) (by decide +kernel), trivial⟩ (ft_preRO hP hKK [3] rfl) rfl rfl hl.1 rfl (lv_room (Nat.le_of_ble_eq_true rfl)) dX4_lossUpTo_42 ⟨Nat.le_of_ble_eq_true rfl, Nat.le_of_ble_eq_true rfl⟩) ?_
            refine ft_top (y := lf i) (ftAt_N (by omega) (by omega)) ?_
            refine lv_iadd hx hb dX4_lossUpTo_45 ?_
            refine lv_istore_n (lv' := [(2, .int (x8_2 + (lf i))), (0, .ref a0), (1, .int (nI X)), (3, .int (nI i))]) hx hb dX4_lossUpTo_46 rfl hl (by decide) rfl (fun ls hl => ?_)
            refine lv_iinc (v := nI (i + 1)) (lv' := [(3, .int (nI (i + 1))), (2, .int (x8_2 + (lf i))), (0, .ref a0), (1, .int (nI X))]) hx hb dX4_lossUpTo_47 hl (k := 3) rfl (ft_inc i) (by decide) rfl (fun ls hl => ?_)
            refine lv_goto (tgt := 8) hx hb dX4_lossUpTo_50 (by decide) ?_
            exact ih8 (i + 1) (x8_2 + (lf i)) (nI (i + 1))  (by omega) (by omega) (by show _ = ftFades kf pf lf att n X + (ftJoints kf pf lf (nI X) i + (if ¬ kf i = 2 ∧ pf i < nI X then lf i else 0)); first | (rw [h9, ex8_2, Int32.add_assoc]; done) | (rw [h9, Int32.add_zero]; exact ex8_2)) (by first | rfl | assumption)  ls (lv_sub hl [2, 3, 1, 0] rfl)
  exact lp8 _ 0 (ftFades kf pf lf att n X) 0  (Nat.lt_succ_self _) (by omega) (by exact (Int32.add_zero _).symm) (by rfl) ls (lv_sub hl [2, 3, 1, 0] rfl)
set_option maxHeartbeats 4000000 in
set_option maxRecDepth 100000 in
theorem c_X4_spreadLossAt (l : Launch) (D : va_G) (cI cS : ClassId) (a0 : Nat) (len att en : Int32) (n ak ap al ar : Nat) (kf pf lf : Nat → Int32) (P : Nat → Nat) (X : Nat) (w : Int32) (hpp : ftPos pf n P) (hX : X ≤ 1000) : Met l yX4_spreadLossAt wsX4_spreadLossAt ({ frames := 1, cells := 0, slots := 0, locals := 21 }) (ftRO D cI cS [.ref a0, .int (nI X), .int w] [(a0, .inr (4, [.int len, .int att, .int en, .int (nI n), .ref ak, .ref ap, .ref al, .ref ar])), (ak, .inl (cI, 10, .inl kf)), (ap, .inl (cI, 10, .inl pf)), (al, .inl (cI, 10, .inl lf))]) (vp_Si (fun o9 => o9 = ftSpr kf pf lf (nI X) w n)) 0 0 (fun _ => False) := by
  refine Met.ofW (cc := cX4_spreadLossAt) (maxL := 6) (ret := (some .int)) (by decide) rfl ?_
  intro p e s m args below meth c s₁ B hml hv
  obtain ⟨rfl, hP, hKK⟩ := hv
  have hK := hKK.1
  have hx := B.exec
  have hb := B.bytes
  have hr := B.returns
  have hts := atoms_spec (ws := wsX4_spreadLossAt) B.pre
  have hown : s.vm.findClass RX4 = some m.cls := findClass_of_methodNamed B.named
  have hlocks := B.notSynchronized
  have hP : va_P D vwCl [(a0, .inr (4, [.int len, .int att, .int en, .int (nI n), .ref ak, .ref ap, .ref al, .ref ar])), (ak, .inl (cI, 10, .inl kf)), (ap, .inl (cI, 10, .inl pf)), (al, .inl (cI, 10, .inl lf))] s.heap := hP
  have hl := lv_entry ([.ref a0, .int (nI X), .int w]) (n := 6) (Nat.le_of_ble_eq_true rfl)
  rw [lg_entry_eq]
  generalize (lg_sl ([.ref a0, .int (nI X), .int w]) ++ List.replicate (6 - (lg_sl ([.ref a0, .int (nI X), .int w])).length) Slot.unset).toArray = ls at hl ⊢
  have hl : lv_has ls 6 [(0, .ref a0), (1, .int (nI X)), (2, .int w)] := hl
  have hn := hpp.1
  refine lv_iconst (v := 0) hx hb dX4_spreadLossAt_0 (by decide) ?_
  refine lv_istore_n (lv' := [(3, .int 0), (0, .ref a0), (1, .int (nI X)), (2, .int w)]) hx hb dX4_spreadLossAt_1 rfl hl (by decide) rfl (fun ls hl => ?_)
  refine lv_iconst (v := 0) hx hb dX4_spreadLossAt_2 (by decide) ?_
  refine lv_istore (lv' := [(4, .int 0), (3, .int 0), (0, .ref a0), (1, .int (nI X)), (2, .int w)]) hx hb dX4_spreadLossAt_3 hl (by decide) rfl (fun ls hl => ?_)
  have lp5 : ∀ (n5 : Nat) (i : Nat) (x5_3 : Int32) (x5_4 : Int32), n - i < n5 → (i ≤ n) → x5_3 = ftSpr kf pf lf (nI X) w i → x5_4 = nI i → ∀ ls : Array Slot, lv_has ls 6 [(0, .ref a0), (1, .int (nI X)), (2, .int w), (3, .int x5_3), (4, .int x5_4)] → W p l e (headSpec wsX4_spreadLossAt { frames := 1, cells := 0, slots := 0, locals := 21 }).room s m ([.ref a0, .int (nI X), .int w] : List Value).toArray below meth c s.heap [] 0 0 (MQ below (vp_Si (fun o9 => o9 = ftSpr kf pf lf (nI X) w n)) ([.ref a0, .int (nI X), .int w] : List Value).toArray s 0 0 (fun _ => False)) (F0 m 5 ls []) := by
    intro n5
    induction n5 with
    | zero =>
      intro i x5_3 x5_4  hm5
      exact absurd hm5 (Nat.not_lt_zero _)
    | succ n5 ih5 =>
      intro i x5_3 x5_4  hm5 hin ex5_3 ex5_4  ls hl
      subst ex5_4
      refine lv_iload hx hb dX4_spreadLossAt_5 (lv_at hl 4 rfl) ?_
      refine lv_aload_n hx hb dX4_spreadLossAt_7 rfl (lv_at hl 0 rfl) ?_
      refine va_get (D := D) (ci := 4) (v := .int (nI n)) (C := RX4) (T := TX4) (N := 8) hx hb hts (by decide +kernel) hown hK hP 0 rfl rfl 3 (by decide) (hts (.fieldLink RX4 37 "FiberTrace$Link" "size" "I") (by decide +kernel)) (fun _ h9 => h9) rfl dX4_spreadLossAt_8 ?_
      refine lv_icmp_ge (tgt := 98) hx hb dX4_spreadLossAt_11 (by decide) (fun c11 => ?_) (fun c11 => ?_)
      · have c11n : n ≤ i := ft_leN (by omega) (by omega) c11
        refine lv_iload_n hx hb dX4_spreadLossAt_98 rfl (lv_at hl 3 rfl) ?_
        exact W.iret (v := x5_3) hx hb hr (fun t ht hW => ⟨x5_3, rfl, (by show (x5_3 : Int32) = ftSpr kf pf lf (nI X) w n; first | (rw [ex5_3]; exact (ftSpr_rest n hin (ftPos_rest hpp hX (fun q => absurd q (by omega)))).symm) | (rw [ex5_3]; exact (ftSpr_rest n hin (ftPos_rest hpp hX (fun q => by omega))).symm)), ht⟩) (fun _ h9 => absurd h9 List.not_mem_nil) dX4_spreadLossAt_99
      · have c11n : i < n := ft_nleN (by omega) (by omega) c11
        have hPi := hpp.2.2.1 i (by omega)
        refine lv_aload_n hx hb dX4_spreadLossAt_14 rfl (lv_at hl 0 rfl) ?_
        refine va_get (D := D) (ci := 4) (v := .ref ap) (C := RX4) (T := TX4) (N := 8) hx hb hts (by decide +kernel) hown hK hP 0 rfl rfl 5 (by decide) (hts (.fieldLink RX4 15 "FiberTrace$Link" "places" "[I") (by decide +kernel)) (fun _ h9 => h9) rfl dX4_spreadLossAt_15 ?_
        refine lv_iload hx hb dX4_spreadLossAt_18 (lv_at hl 4 rfl) ?_
        refine ft_csi (r := ftAt 10 pf (nI i)) (va_runSN (As := [.ref ap, .int (nI i)]) (rest := []) ⟨hx, hb, hml, hown, hts⟩ (c_X10_at l D cI cS ap 10 pf (nI i) (by first | assumption | omega)) ⟨va_cnB 2 hts gX4_spreadLossAt_X10_at_n50 rfl rfl rfl (hKK.2 _ (List.mem_of_getElem? (i := 11) rfl)) (hts (.initialized RX10) (by decide +kernel)) (by decide +kernel) ⟨Nat.le_of_ble_eq_true rfl, Nat.le_of_ble_eq_true rfl⟩, hts (.static yX10_at) (by decide +kernel), trivial⟩ (ft_preRO hP hKK [2] rfl) rfl rfl hl.1 rfl (lv_room (Nat.le_of_ble_eq_true rfl)) dX4_spreadLossAt_20 ⟨Nat.le_of_ble_eq_true rfl, Nat.le_of_ble_eq_true rfl⟩) ?_
        refine ft_top (y := pf i) (ftAt_N (by omega) (by omega)) ?_
        refine ft_top (y := nI (P i)) (hpp.2.1 i (by omega)) ?_
        refine lv_iload_n hx hb dX4_spreadLossAt_23 rfl (lv_at hl 1 rfl) ?_
        refine lv_icmp_gt (tgt := 98) hx hb dX4_spreadLossAt_24 (by decide) (fun c24 => ?_) (fun c24 => ?_)
        · have c24n : X < (P i) := ft_ltN (by omega) (by omega) c24
          refine lv_iload_n hx hb dX4_spreadLossAt_98 rfl (lv_at hl 3 rfl) ?_
          exact W.iret (v := x5_3) hx hb hr (fun t ht hW => ⟨x5_3, rfl, (by show (x5_3 : Int32) = ftSpr kf pf lf (nI X) w n; first | (rw [ex5_3]; exact (ftSpr_rest n hin (ftPos_rest hpp hX (fun q => absurd q (by omega)))).symm) | (rw [ex5_3]; exact (ftSpr_rest n hin (ftPos_rest hpp hX (fun q => by omega))).symm)), ht⟩) (fun _ h9 => absurd h9 List.not_mem_nil) dX4_spreadLossAt_99
        · have c24n : (P i) ≤ X := ft_nltN (by omega) (by omega) c24
          have hple : pf i ≤ nI X := by rw [hpp.2.1 i (by omega)]; exact nI_le c24n (by omega)
          refine lv_aload_n hx hb dX4_spreadLossAt_27 rfl (lv_at hl 0 rfl) ?_
          refine va_get (D := D) (ci := 4) (v := .ref ak) (C := RX4) (T := TX4) (N := 8) hx hb hts (by decide +kernel) hown hK hP 0 rfl rfl 4 (by decide) (hts (.fieldLink RX4 9 "FiberTrace$Link" "kinds" "[I") (by decide +kernel)) (fun _ h9 => h9) rfl dX4_spreadLossAt_28 ?_
          refine lv_iload hx hb dX4_spreadLossAt_31 (lv_at hl 4 rfl) ?_
          refine ft_csi (r := ftAt 10 kf (nI i)) (va_runSN (As := [.ref ak, .int (nI i)]) (rest := []) ⟨hx, hb, hml, hown, hts⟩ (c_X10_at l D cI cS ak 10 kf (nI i) (by first | assumption | omega)) ⟨va_cnB 2 hts gX4_spreadLossAt_X10_at_n50 rfl rfl rfl (hKK.2 _ (List.mem_of_getElem? (i := 11) rfl)) (hts (.initialized RX10) (by decide +kernel)) (by decide +kernel) ⟨Nat.le_of_ble_eq_true rfl, Nat.le_of_ble_eq_true rfl⟩, hts (.static yX10_at) (by decide +kernel), trivial⟩ (ft_preRO hP hKK [1] rfl) rfl rfl hl.1 rfl (lv_room (Nat.le_of_ble_eq_true rfl)) dX4_spreadLossAt_33 ⟨Nat.le_of_ble_eq_true rfl, Nat.le_of_ble_eq_true rfl⟩) ?_
          refine ft_top (y := kf i) (ftAt_N (by omega) (by omega)) ?_
          refine lv_iconst (v := 2) hx hb dX4_spreadLossAt_36 (by decide) ?_
          refine lv_icmp_eq (tgt := 92) hx hb dX4_spreadLossAt_37 (by decide) (fun c37 => ?_) (fun c37 => ?_)
          · refine lv_iinc (v := nI (i + 1)) (lv' := [(4, .int (nI (i + 1))), (0, .ref a0), (1, .int (nI X)), (2, .int w), (3, .int x5_3)]) hx hb dX4_spreadLossAt_92 hl (k := 4) rfl (ft_inc i) (by decide) rfl (fun ls hl => ?_)
            refine lv_goto (tgt := 5) hx hb dX4_spreadLossAt_95 (by decide) ?_
            exact ih5 (i + 1) x5_3 (nI (i + 1))  (by omega) (by omega) (by show _ = ftSpr kf pf lf (nI X) w i + (if ¬ kf i = 2 ∧ pf i ≤ nI X then ftSpr1 (lf i) (pf i) (nI X) w else 0); first | (rw [if_neg (fun q => q.1 c37), Int32.add_zero]; exact ex5_3) | (rw [if_pos ⟨c37, hple⟩, ftSpr1, if_pos (Int32.not_lt.mp c59), ex5_3]) | (rw [if_pos ⟨c37, hple⟩, ftSpr1, if_neg (Int32.not_le.mpr c59), ex5_3])) (by first | rfl | assumption)  ls (lv_sub hl [1, 2, 3, 4, 0] rfl)
          · refine lv_iload_n hx hb dX4_spreadLossAt_40 rfl (lv_at hl 1 rfl) ?_
            refine lv_aload_n hx hb dX4_spreadLossAt_41 rfl (lv_at hl 0 rfl) ?_
            refine va_get (D := D) (ci := 4) (v := .ref ap) (C := RX4) (T := TX4) (N := 8) hx hb hts (by decide +kernel) hown hK hP 0 rfl rfl 5 (by decide) (hts (.fieldLink RX4 15 "FiberTrace$Link" "places" "[I") (by decide +kernel)) (fun _ h9 => h9) rfl dX4_spreadLossAt_42 ?_
            refine lv_iload hx hb dX4_spreadLossAt_45 (lv_at hl 4 rfl) ?_
            refine ft_csi (r := ftAt 10 pf (nI i)) (va_runSN (As := [.ref ap, .int (nI i)]) (rest := [.int (nI X)]) ⟨hx, hb, hml, hown, hts⟩ (c_X10_at l D cI cS ap 10 pf (nI i) (by first | assumption | omega)) ⟨va_cnB 2 hts gX4_spreadLossAt_X10_at_n50 rfl rfl rfl (hKK.2 _ (List.mem_of_getElem? (i := 11) rfl)) (hts (.initialized RX10) (by decide +kernel)) (by decide +kernel) ⟨Nat.le_of_ble_eq_true rfl, Nat.le_of_ble_eq_true rfl⟩, hts (.static yX10_at) (by decide +kernel), trivial⟩ (ft_preRO hP hKK [2] rfl) rfl rfl hl.1 rfl (lv_room (Nat.le_of_ble_eq_true rfl)) dX4_spreadLossAt_47 ⟨Nat.le_of_ble_eq_true rfl, Nat.le_of_ble_eq_true rfl⟩) ?_
            refine ft_top (y := pf i) (ftAt_N (by omega) (by omega)) ?_
            refine lv_isub hx hb dX4_spreadLossAt_50 ?_
            refine lv_iconst (v := 1) hx hb dX4_spreadLossAt_51 (by decide) ?_
            refine lv_iadd hx hb dX4_spreadLossAt_52 ?_
            refine lv_istore (lv' := [(5, .int (((nI X) - (pf i)) + 1)), (0, .ref a0), (1, .int (nI X)), (2, .int w), (3, .int x5_3), (4, .int (nI i))]) hx hb dX4_spreadLossAt_53 hl (by decide) rfl (fun ls hl => ?_)
            refine lv_iload_n hx hb dX4_spreadLossAt_55 rfl (lv_at hl 4 rfl) ?_
            refine lv_iload hx hb dX4_spreadLossAt_56 (lv_at hl 0 rfl) ?_
            refine lv_iload_n hx hb dX4_spreadLossAt_58 rfl (lv_at hl 3 rfl) ?_
            refine lv_icmp_lt (tgt := 74) hx hb dX4_spreadLossAt_59 (by decide) (fun c59 => ?_) (fun c59 => ?_)
            · refine lv_aload_n hx hb dX4_spreadLossAt_74 rfl (lv_at hl 1 rfl) ?_
              refine va_get (D := D) (ci := 4) (v := .ref al) (C := RX4) (T := TX4) (N := 8) hx hb hts (by decide +kernel) hown hK hP 0 rfl rfl 6 (by decide) (hts (.fieldLink RX4 18 "FiberTrace$Link" "losses" "[I") (by decide +kernel)) (fun _ h9 => h9) rfl dX4_spreadLossAt_75 ?_
              refine lv_iload hx hb dX4_spreadLossAt_78 (lv_at hl 5 rfl) ?_
              refine ft_csi (r := ftAt 10 lf (nI i)) (va_runSN (As := [.ref al, .int (nI i)]) (rest := [.int x5_3]) ⟨hx, hb, hml, hown, hts⟩ (c_X10_at l D cI cS al 10 lf (nI i) (by first | assumption | omega)) ⟨va_cnB 2 hts gX4_spreadLossAt_X10_at_n50 rfl rfl rfl (hKK.2 _ (List.mem_of_getElem? (i := 11) rfl)) (hts (.initialized RX10) (by decide +kernel)) (by decide +kernel) ⟨Nat.le_of_ble_eq_true rfl, Nat.le_of_ble_eq_true rfl⟩, hts (.static yX10_at) (by decide +kernel), trivial⟩ (ft_preRO hP hKK [3] rfl) rfl rfl hl.1 rfl (lv_room (Nat.le_of_ble_eq_true rfl)) dX4_spreadLossAt_80 ⟨Nat.le_of_ble_eq_true rfl, Nat.le_of_ble_eq_true rfl⟩) ?_
              refine ft_top (y := lf i) (ftAt_N (by omega) (by omega)) ?_
              refine lv_iload hx hb dX4_spreadLossAt_83 (lv_at hl 0 rfl) ?_
              refine lv_imul hx hb dX4_spreadLossAt_85 ?_
              refine lv_iload_n hx hb dX4_spreadLossAt_86 rfl (lv_at hl 3 rfl) ?_
              refine ft_csi (r := ftQuot ((lf i) * (((nI X) - (pf i)) + 1)) w) (va_runSN (As := [.int ((lf i) * (((nI X) - (pf i)) + 1)), .int w]) (rest := [.int x5_3]) ⟨hx, hb, hml, hown, hts⟩ (c_X10_quotient l D cI cS ((lf i) * (((nI X) - (pf i)) + 1)) w) ⟨va_cnB 2 hts gX4_spreadLossAt_X10_quotient_n70 rfl rfl rfl (hKK.2 _ (List.mem_of_getElem? (i := 18) rfl)) (hts (.initialized RX10) (by decide +kernel)) (by decide +kernel) ⟨Nat.le_of_ble_eq_true rfl, Nat.le_of_ble_eq_true rfl⟩, hts (.static yX10_quotient) (by decide +kernel), trivial⟩ (ft_preRO hP hKK [] rfl) rfl rfl hl.1 rfl (lv_room (Nat.le_of_ble_eq_true rfl)) dX4_spreadLossAt_87 ⟨Nat.le_of_ble_eq_true rfl, Nat.le_of_ble_eq_true rfl⟩) ?_
              refine lv_iadd hx hb dX4_spreadLossAt_90 ?_
              refine lv_istore_n (lv' := [(3, .int (x5_3 + (ftQuot ((lf i) * (((nI X) - (pf i)) + 1)) w))), (5, .int (((nI X) - (pf i)) + 1)), (0, .ref a0), (1, .int (nI X)), (2, .int w), (4, .int (nI i))]) hx hb dX4_spreadLossAt_91 rfl hl (by decide) rfl (fun ls hl => ?_)
              refine lv_iinc (v := nI (i + 1)) (lv' := [(4, .int (nI (i + 1))), (3, .int (x5_3 + (ftQuot ((lf i) * (((nI X) - (pf i)) + 1)) w))), (5, .int (((nI X) - (pf i)) + 1)), (0, .ref a0), (1, .int (nI X)), (2, .int w)]) hx hb dX4_spreadLossAt_92 hl (k := 5) rfl (ft_inc i) (by decide) rfl (fun ls hl => ?_)
              refine lv_goto (tgt := 5) hx hb dX4_spreadLossAt_95 (by decide) ?_
              exact ih5 (i + 1) (x5_3 + (ftQuot ((lf i) * (((nI X) - (pf i)) + 1)) w)) (nI (i + 1))  (by omega) (by omega) (by show _ = ftSpr kf pf lf (nI X) w i + (if ¬ kf i = 2 ∧ pf i ≤ nI X then ftSpr1 (lf i) (pf i) (nI X) w else 0); first | (rw [if_neg (fun q => q.1 c37), Int32.add_zero]; exact ex5_3) | (rw [if_pos ⟨c37, hple⟩, ftSpr1, if_pos (Int32.not_lt.mp c59), ex5_3]) | (rw [if_pos ⟨c37, hple⟩, ftSpr1, if_neg (Int32.not_le.mpr c59), ex5_3])) (by first | rfl | assumption)  ls (lv_sub hl [3, 4, 5, 1, 0] rfl)
            · refine lv_aload_n hx hb dX4_spreadLossAt_62 rfl (lv_at hl 1 rfl) ?_
              refine va_get (D := D) (ci := 4) (v := .ref al) (C := RX4) (T := TX4) (N := 8) hx hb hts (by decide +kernel) hown hK hP 0 rfl rfl 6 (by decide) (hts (.fieldLink RX4 18 "FiberTrace$Link" "losses" "[I") (by decide +kernel)) (fun _ h9 => h9) rfl dX4_spreadLossAt_63 ?_
              refine lv_iload hx hb dX4_spreadLossAt_66 (lv_at hl 5 rfl) ?_
              refine ft_csi (r := ftAt 10 lf (nI i)) (va_runSN (As := [.ref al, .int (nI i)]) (rest := [.int x5_3]) ⟨hx, hb, hml, hown, hts⟩ (c_X10_at l D cI cS al 10 lf (nI i) (by first | assumption | omega)) ⟨va_cnB 2 hts gX4_spreadLossAt_X10_at_n50 rfl rfl rfl (hKK.2 _ (List.mem_of_getElem? (i := 11) rfl)) (hts (.initialized RX10) (by decide +kernel)) (by decide +kernel) ⟨Nat.le_of_ble_eq_true rfl, Nat.le_of_ble_eq_true rfl⟩, hts (.static yX10_at) (by decide +kernel), trivial⟩ (ft_preRO hP hKK [3] rfl) rfl rfl hl.1 rfl (lv_room (Nat.le_of_ble_eq_true rfl)) dX4_spreadLossAt_68 ⟨Nat.le_of_ble_eq_true rfl, Nat.le_of_ble_eq_true rfl⟩) ?_
              refine ft_top (y := lf i) (ftAt_N (by omega) (by omega)) ?_
              refine lv_goto (tgt := 90) hx hb dX4_spreadLossAt_71 (by decide) ?_
              refine lv_iadd hx hb dX4_spreadLossAt_90 ?_
              refine lv_istore_n (lv' := [(3, .int (x5_3 + (lf i))), (5, .int (((nI X) - (pf i)) + 1)), (0, .ref a0), (1, .int (nI X)), (2, .int w), (4, .int (nI i))]) hx hb dX4_spreadLossAt_91 rfl hl (by decide) rfl (fun ls hl => ?_)
              refine lv_iinc (v := nI (i + 1)) (lv' := [(4, .int (nI (i + 1))), (3, .int (x5_3 + (lf i))), (5, .int (((nI X) - (pf i)) + 1)), (0, .ref a0), (1, .int (nI X)), (2, .int w)]) hx hb dX4_spreadLossAt_92 hl (k := 5) rfl (ft_inc i) (by decide) rfl (fun ls hl => ?_)
              refine lv_goto (tgt := 5) hx hb dX4_spreadLossAt_95 (by decide) ?_
              exact ih5 (i + 1) (x5_3 + (lf i)) (nI (i + 1))  (by omega) (by omega) (by show _ = ftSpr kf pf lf (nI X) w i + (if ¬ kf i = 2 ∧ pf i ≤ nI X then ftSpr1 (lf i) (pf i) (nI X) w else 0); first | (rw [if_neg (fun q => q.1 c37), Int32.add_zero]; exact ex5_3) | (rw [if_pos ⟨c37, hple⟩, ftSpr1, if_pos (Int32.not_lt.mp c59), ex5_3]) | (rw [if_pos ⟨c37, hple⟩, ftSpr1, if_neg (Int32.not_le.mpr c59), ex5_3])) (by first | rfl | assumption)  ls (lv_sub hl [3, 4, 5, 1, 0] rfl)
  exact lp5 _ 0 0 0  (Nat.lt_succ_self _) (by omega) (by rfl) (by rfl) ls (lv_sub hl [2, 3, 4, 1, 0] rfl)
set_option maxHeartbeats 4000000 in
set_option maxRecDepth 100000 in
theorem c_X4_reset (l : Launch) (D : va_G) (cI cS : ClassId) (sz : Nat) (a0 : Nat) (len att en : Int32) (n ak ap al ar : Nat)  : Met l yX4_reset wsX4_reset ({ frames := 0, cells := 0, slots := 0, locals := 0 }) (ftRW D cI cS [.ref a0] [(a0, .inr (4, [.int len, .int att, .int en, .int (nI n), .ref ak, .ref ap, .ref al, .ref ar]))] sz) (ftQv D [(a0, .inr (4, [.int len, .int att, .int en, .int (nI n), .ref ak, .ref ap, .ref al, .ref ar]))] [(a0, .inr (4, [.int 200, .int 10, .int 12000, .int 0, .ref ak, .ref ap, .ref al, .ref ar]))] sz) 0 0 (va_A [(a0, .inr (4, [.int len, .int att, .int en, .int (nI n), .ref ak, .ref ap, .ref al, .ref ar]))] sz) := by
  refine Met.ofW (cc := cX4_reset) (maxL := 1) (ret := none) (by decide) rfl ?_
  intro p e s m args below meth c s₁ B hml hv
  obtain ⟨rfl, hsz, hP, hKK, hD0⟩ := hv
  have hK := hKK.1
  have hx := B.exec
  have hb := B.bytes
  have hr := B.returns
  have hts := atoms_spec (ws := wsX4_reset) B.pre
  have hown : s.vm.findClass RX4 = some m.cls := findClass_of_methodNamed B.named
  have hlocks := B.notSynchronized
  subst hsz
  have hD := hD0.self (sz := s.heap.size)
  generalize hAe : va_A [(a0, .inr (4, [.int len, .int att, .int en, .int (nI n), .ref ak, .ref ap, .ref al, .ref ar]))] s.heap.size = A at hD ⊢
  have hA : ∀ q : Nat, s.heap.size ≤ q → A q := fun q h => by rw [← hAe]; exact Or.inr h
  have hS : va_S A s.heap s.heap [] := va_S.rf
  have hD : va_D A [(a0, .inr (4, [.int len, .int att, .int en, .int (nI n), .ref ak, .ref ap, .ref al, .ref ar]))] := hD
  have hP : va_P D vwCl [(a0, .inr (4, [.int len, .int att, .int en, .int (nI n), .ref ak, .ref ap, .ref al, .ref ar]))] s.heap := hP
  have hl := lv_entry ([.ref a0]) (n := 1) (Nat.le_of_ble_eq_true rfl)
  rw [lg_entry_eq]
  generalize (lg_sl ([.ref a0]) ++ List.replicate (1 - (lg_sl ([.ref a0])).length) Slot.unset).toArray = ls at hl ⊢
  have hl : lv_has ls 1 [(0, .ref a0)] := hl
  refine lv_aload_n hx hb dX4_reset_0 rfl (lv_at hl 0 rfl) ?_
  refine lv_sipush (v := 200) hx hb dX4_reset_1 (by decide) ?_
  refine va_put (D := D) (ci := 4) (v := .int 200) (ty := .int) (C := RX4) (T := TX4) (N := 8) hx hb hts (by decide +kernel) tyX4 tyX4_ok nmX4 hown hK hP hD hS 0 rfl rfl 0 (by decide) (hts (.fieldLink RX4 27 "FiberTrace$Link" "length" "I") (by decide +kernel)) (fun _ h9 => h9) rfl (by decide +kernel) rfl rfl (Nat.le_of_ble_eq_true rfl) dX4_reset_4 (fun H locs hP hD hS => ?_)
  have hP : va_P D vwCl [(a0, .inr (4, [.int 200, .int att, .int en, .int (nI n), .ref ak, .ref ap, .ref al, .ref ar]))] H := hP
  have hD : va_D A [(a0, .inr (4, [.int 200, .int att, .int en, .int (nI n), .ref ak, .ref ap, .ref al, .ref ar]))] := hD
  refine lv_aload_n hx hb dX4_reset_7 rfl (lv_at hl 0 rfl) ?_
  refine lv_bipush (v := 10) hx hb dX4_reset_8 (by decide) ?_
  refine va_put (D := D) (ci := 4) (v := .int 10) (ty := .int) (C := RX4) (T := TX4) (N := 8) hx hb hts (by decide +kernel) tyX4 tyX4_ok nmX4 hown hK hP hD hS 0 rfl rfl 1 (by decide) (hts (.fieldLink RX4 31 "FiberTrace$Link" "attenuation" "I") (by decide +kernel)) (fun _ h9 => h9) rfl (by decide +kernel) rfl rfl (Nat.le_of_ble_eq_true rfl) dX4_reset_10 (fun H locs hP hD hS => ?_)
  have hP : va_P D vwCl [(a0, .inr (4, [.int 200, .int 10, .int en, .int (nI n), .ref ak, .ref ap, .ref al, .ref ar]))] H := hP
  have hD : va_D A [(a0, .inr (4, [.int 200, .int 10, .int en, .int (nI n), .ref ak, .ref ap, .ref al, .ref ar]))] := hD
  refine lv_aload_n hx hb dX4_reset_13 rfl (lv_at hl 0 rfl) ?_
  refine lv_sipush (v := 12000) hx hb dX4_reset_14 (by decide) ?_
  refine va_put (D := D) (ci := 4) (v := .int 12000) (ty := .int) (C := RX4) (T := TX4) (N := 8) hx hb hts (by decide +kernel) tyX4 tyX4_ok nmX4 hown hK hP hD hS 0 rfl rfl 2 (by decide) (hts (.fieldLink RX4 34 "FiberTrace$Link" "end" "I") (by decide +kernel)) (fun _ h9 => h9) rfl (by decide +kernel) rfl rfl (Nat.le_of_ble_eq_true rfl) dX4_reset_17 (fun H locs hP hD hS => ?_)
  have hP : va_P D vwCl [(a0, .inr (4, [.int 200, .int 10, .int 12000, .int (nI n), .ref ak, .ref ap, .ref al, .ref ar]))] H := hP
  have hD : va_D A [(a0, .inr (4, [.int 200, .int 10, .int 12000, .int (nI n), .ref ak, .ref ap, .ref al, .ref ar]))] := hD
  refine lv_aload_n hx hb dX4_reset_20 rfl (lv_at hl 0 rfl) ?_
  refine lv_iconst (v := 0) hx hb dX4_reset_21 (by decide) ?_
  refine va_put (D := D) (ci := 4) (v := .int 0) (ty := .int) (C := RX4) (T := TX4) (N := 8) hx hb hts (by decide +kernel) tyX4 tyX4_ok nmX4 hown hK hP hD hS 0 rfl rfl 3 (by decide) (hts (.fieldLink RX4 37 "FiberTrace$Link" "size" "I") (by decide +kernel)) (fun _ h9 => h9) rfl (by decide +kernel) rfl rfl (Nat.le_of_ble_eq_true rfl) dX4_reset_22 (fun H locs hP hD hS => ?_)
  have hP : va_P D vwCl [(a0, .inr (4, [.int 200, .int 10, .int 12000, .int 0, .ref ak, .ref ap, .ref al, .ref ar]))] H := hP
  have hD : va_D A [(a0, .inr (4, [.int 200, .int 10, .int 12000, .int 0, .ref ak, .ref ap, .ref al, .ref ar]))] := hD
  have hw9 : ([(a0, .inr (4, [.int 200, .int 10, .int 12000, .int 0, .ref ak, .ref ap, .ref al, .ref ar]))] : va_W) = [(a0, .inr (4, [.int 200, .int 10, .int 12000, .int 0, .ref ak, .ref ap, .ref al, .ref ar]))] := rfl
  rw [hw9] at hP hD
  exact W.vret hx hb hr (fun t ht hW => ⟨⟨(), rfl, trivial, by rw [ht]; exact hP, by rw [hAe]; exact hD⟩, by rw [hAe]; exact hS.F ht⟩) hS.2.2 dX4_reset_25
set_option maxHeartbeats 4000000 in
set_option maxRecDepth 100000 in
theorem c_X4_copyFrom (l : Launch) (D : va_G) (cI cS : ClassId) (sz : Nat) (a0 : Nat) (len att en : Int32) (n ak ap al ar : Nat) (kf pf lf rf : Nat → Int32) (b0 : Nat) (len2 att2 en2 : Int32) (n2 bk bp bl br : Nat) (kg pg lg rg : Nat → Int32)  : Met l yX4_copyFrom wsX4_copyFrom ({ frames := 1, cells := 0, slots := 0, locals := 30 }) (ftRW D cI cS [.ref a0, .ref b0] [(a0, .inr (4, [.int len, .int att, .int en, .int (nI n), .ref ak, .ref ap, .ref al, .ref ar])), (ak, .inl (cI, 10, .inl kf)), (ap, .inl (cI, 10, .inl pf)), (al, .inl (cI, 10, .inl lf)), (ar, .inl (cI, 10, .inl rf)), (b0, .inr (4, [.int len2, .int att2, .int en2, .int (nI n2), .ref bk, .ref bp, .ref bl, .ref br])), (bk, .inl (cI, 10, .inl kg)), (bp, .inl (cI, 10, .inl pg)), (bl, .inl (cI, 10, .inl lg)), (br, .inl (cI, 10, .inl rg))] sz) (ftQv D [(a0, .inr (4, [.int len, .int att, .int en, .int (nI n), .ref ak, .ref ap, .ref al, .ref ar])), (ak, .inl (cI, 10, .inl kf)), (ap, .inl (cI, 10, .inl pf)), (al, .inl (cI, 10, .inl lf)), (ar, .inl (cI, 10, .inl rf)), (b0, .inr (4, [.int len2, .int att2, .int en2, .int (nI n2), .ref bk, .ref bp, .ref bl, .ref br])), (bk, .inl (cI, 10, .inl kg)), (bp, .inl (cI, 10, .inl pg)), (bl, .inl (cI, 10, .inl lg)), (br, .inl (cI, 10, .inl rg))] [(a0, .inr (4, [.int len2, .int att2, .int en2, .int (nI n2), .ref ak, .ref ap, .ref al, .ref ar])), (ak, .inl (cI, 10, .inl (va_cpy kg kf 0 0 10))), (ap, .inl (cI, 10, .inl (va_cpy pg pf 0 0 10))), (al, .inl (cI, 10, .inl (va_cpy lg lf 0 0 10))), (ar, .inl (cI, 10, .inl (va_cpy rg rf 0 0 10))), (b0, .inr (4, [.int len2, .int att2, .int en2, .int (nI n2), .ref bk, .ref bp, .ref bl, .ref br])), (bk, .inl (cI, 10, .inl kg)), (bp, .inl (cI, 10, .inl pg)), (bl, .inl (cI, 10, .inl lg)), (br, .inl (cI, 10, .inl rg))] sz) 0 0 (va_A [(a0, .inr (4, [.int len, .int att, .int en, .int (nI n), .ref ak, .ref ap, .ref al, .ref ar])), (ak, .inl (cI, 10, .inl kf)), (ap, .inl (cI, 10, .inl pf)), (al, .inl (cI, 10, .inl lf)), (ar, .inl (cI, 10, .inl rf)), (b0, .inr (4, [.int len2, .int att2, .int en2, .int (nI n2), .ref bk, .ref bp, .ref bl, .ref br])), (bk, .inl (cI, 10, .inl kg)), (bp, .inl (cI, 10, .inl pg)), (bl, .inl (cI, 10, .inl lg)), (br, .inl (cI, 10, .inl rg))] sz) := by
  refine Met.ofW (cc := cX4_copyFrom) (maxL := 2) (ret := none) (by decide) rfl ?_
  intro p e s m args below meth c s₁ B hml hv
  obtain ⟨rfl, hsz, hP, hKK, hD0⟩ := hv
  have hK := hKK.1
  have hx := B.exec
  have hb := B.bytes
  have hr := B.returns
  have hts := atoms_spec (ws := wsX4_copyFrom) B.pre
  have hown : s.vm.findClass RX4 = some m.cls := findClass_of_methodNamed B.named
  have hlocks := B.notSynchronized
  subst hsz
  have hD := hD0.self (sz := s.heap.size)
  generalize hAe : va_A [(a0, .inr (4, [.int len, .int att, .int en, .int (nI n), .ref ak, .ref ap, .ref al, .ref ar])), (ak, .inl (cI, 10, .inl kf)), (ap, .inl (cI, 10, .inl pf)), (al, .inl (cI, 10, .inl lf)), (ar, .inl (cI, 10, .inl rf)), (b0, .inr (4, [.int len2, .int att2, .int en2, .int (nI n2), .ref bk, .ref bp, .ref bl, .ref br])), (bk, .inl (cI, 10, .inl kg)), (bp, .inl (cI, 10, .inl pg)), (bl, .inl (cI, 10, .inl lg)), (br, .inl (cI, 10, .inl rg))] s.heap.size = A at hD ⊢
  have hA : ∀ q : Nat, s.heap.size ≤ q → A q := fun q h => by rw [← hAe]; exact Or.inr h
  have hS : va_S A s.heap s.heap [] := va_S.rf
  have hD : va_D A [(a0, .inr (4, [.int len, .int att, .int en, .int (nI n), .ref ak, .ref ap, .ref al, .ref ar])), (ak, .inl (cI, 10, .inl kf)), (ap, .inl (cI, 10, .inl pf)), (al, .inl (cI, 10, .inl lf)), (ar, .inl (cI, 10, .inl rf)), (b0, .inr (4, [.int len2, .int att2, .int en2, .int (nI n2), .ref bk, .ref bp, .ref bl, .ref br])), (bk, .inl (cI, 10, .inl kg)), (bp, .inl (cI, 10, .inl pg)), (bl, .inl (cI, 10, .inl lg)), (br, .inl (cI, 10, .inl rg))] := hD
  have hP : va_P D vwCl [(a0, .inr (4, [.int len, .int att, .int en, .int (nI n), .ref ak, .ref ap, .ref al, .ref ar])), (ak, .inl (cI, 10, .inl kf)), (ap, .inl (cI, 10, .inl pf)), (al, .inl (cI, 10, .inl lf)), (ar, .inl (cI, 10, .inl rf)), (b0, .inr (4, [.int len2, .int att2, .int en2, .int (nI n2), .ref bk, .ref bp, .ref bl, .ref br])), (bk, .inl (cI, 10, .inl kg)), (bp, .inl (cI, 10, .inl pg)), (bl, .inl (cI, 10, .inl lg)), (br, .inl (cI, 10, .inl rg))] s.heap := hP
  have hl := lv_entry ([.ref a0, .ref b0]) (n := 2) (Nat.le_of_ble_eq_true rfl)
  rw [lg_entry_eq]
  generalize (lg_sl ([.ref a0, .ref b0]) ++ List.replicate (2 - (lg_sl ([.ref a0, .ref b0])).length) Slot.unset).toArray = ls at hl ⊢
  have hl : lv_has ls 2 [(0, .ref a0), (1, .ref b0)] := hl
  refine lv_aload_n hx hb dX4_copyFrom_0 rfl (lv_at hl 0 rfl) ?_
  refine lv_aload_n hx hb dX4_copyFrom_1 rfl (lv_at hl 1 rfl) ?_
  refine va_get (D := D) (ci := 4) (v := .int len2) (C := RX4) (T := TX4) (N := 8) hx hb hts (by decide +kernel) hown hK hP 5 rfl rfl 0 (by decide) (hts (.fieldLink RX4 27 "FiberTrace$Link" "length" "I") (by decide +kernel)) (fun _ h9 => h9) rfl dX4_copyFrom_2 ?_
  refine va_put (D := D) (ci := 4) (v := .int len2) (ty := .int) (C := RX4) (T := TX4) (N := 8) hx hb hts (by decide +kernel) tyX4 tyX4_ok nmX4 hown hK hP hD hS 0 rfl rfl 0 (by decide) (hts (.fieldLink RX4 27 "FiberTrace$Link" "length" "I") (by decide +kernel)) (fun _ h9 => h9) rfl (by decide +kernel) rfl rfl (Nat.le_of_ble_eq_true rfl) dX4_copyFrom_5 (fun H locs hP hD hS => ?_)
  have hP : va_P D vwCl [(a0, .inr (4, [.int len2, .int att, .int en, .int (nI n), .ref ak, .ref ap, .ref al, .ref ar])), (ak, .inl (cI, 10, .inl kf)), (ap, .inl (cI, 10, .inl pf)), (al, .inl (cI, 10, .inl lf)), (ar, .inl (cI, 10, .inl rf)), (b0, .inr (4, [.int len2, .int att2, .int en2, .int (nI n2), .ref bk, .ref bp, .ref bl, .ref br])), (bk, .inl (cI, 10, .inl kg)), (bp, .inl (cI, 10, .inl pg)), (bl, .inl (cI, 10, .inl lg)), (br, .inl (cI, 10, .inl rg))] H := hP
  have hD : va_D A [(a0, .inr (4, [.int len2, .int att, .int en, .int (nI n), .ref ak, .ref ap, .ref al, .ref ar])), (ak, .inl (cI, 10, .inl kf)), (ap, .inl (cI, 10, .inl pf)), (al, .inl (cI, 10, .inl lf)), (ar, .inl (cI, 10, .inl rf)), (b0, .inr (4, [.int len2, .int att2, .int en2, .int (nI n2), .ref bk, .ref bp, .ref bl, .ref br])), (bk, .inl (cI, 10, .inl kg)), (bp, .inl (cI, 10, .inl pg)), (bl, .inl (cI, 10, .inl lg)), (br, .inl (cI, 10, .inl rg))] := hD
  refine lv_aload_n hx hb dX4_copyFrom_8 rfl (lv_at hl 0 rfl) ?_
  refine lv_aload_n hx hb dX4_copyFrom_9 rfl (lv_at hl 1 rfl) ?_
  refine va_get (D := D) (ci := 4) (v := .int att2) (C := RX4) (T := TX4) (N := 8) hx hb hts (by decide +kernel) hown hK hP 5 rfl rfl 1 (by decide) (hts (.fieldLink RX4 31 "FiberTrace$Link" "attenuation" "I") (by decide +kernel)) (fun _ h9 => h9) rfl dX4_copyFrom_10 ?_
  refine va_put (D := D) (ci := 4) (v := .int att2) (ty := .int) (C := RX4) (T := TX4) (N := 8) hx hb hts (by decide +kernel) tyX4 tyX4_ok nmX4 hown hK hP hD hS 0 rfl rfl 1 (by decide) (hts (.fieldLink RX4 31 "FiberTrace$Link" "attenuation" "I") (by decide +kernel)) (fun _ h9 => h9) rfl (by decide +kernel) rfl rfl (Nat.le_of_ble_eq_true rfl) dX4_copyFrom_13 (fun H locs hP hD hS => ?_)
  have hP : va_P D vwCl [(a0, .inr (4, [.int len2, .int att2, .int en, .int (nI n), .ref ak, .ref ap, .ref al, .ref ar])), (ak, .inl (cI, 10, .inl kf)), (ap, .inl (cI, 10, .inl pf)), (al, .inl (cI, 10, .inl lf)), (ar, .inl (cI, 10, .inl rf)), (b0, .inr (4, [.int len2, .int att2, .int en2, .int (nI n2), .ref bk, .ref bp, .ref bl, .ref br])), (bk, .inl (cI, 10, .inl kg)), (bp, .inl (cI, 10, .inl pg)), (bl, .inl (cI, 10, .inl lg)), (br, .inl (cI, 10, .inl rg))] H := hP
  have hD : va_D A [(a0, .inr (4, [.int len2, .int att2, .int en, .int (nI n), .ref ak, .ref ap, .ref al, .ref ar])), (ak, .inl (cI, 10, .inl kf)), (ap, .inl (cI, 10, .inl pf)), (al, .inl (cI, 10, .inl lf)), (ar, .inl (cI, 10, .inl rf)), (b0, .inr (4, [.int len2, .int att2, .int en2, .int (nI n2), .ref bk, .ref bp, .ref bl, .ref br])), (bk, .inl (cI, 10, .inl kg)), (bp, .inl (cI, 10, .inl pg)), (bl, .inl (cI, 10, .inl lg)), (br, .inl (cI, 10, .inl rg))] := hD
  refine lv_aload_n hx hb dX4_copyFrom_16 rfl (lv_at hl 0 rfl) ?_
  refine lv_aload_n hx hb dX4_copyFrom_17 rfl (lv_at hl 1 rfl) ?_
  refine va_get (D := D) (ci := 4) (v := .int en2) (C := RX4) (T := TX4) (N := 8) hx hb hts (by decide +kernel) hown hK hP 5 rfl rfl 2 (by decide) (hts (.fieldLink RX4 34 "FiberTrace$Link" "end" "I") (by decide +kernel)) (fun _ h9 => h9) rfl dX4_copyFrom_18 ?_
  refine va_put (D := D) (ci := 4) (v := .int en2) (ty := .int) (C := RX4) (T := TX4) (N := 8) hx hb hts (by decide +kernel) tyX4 tyX4_ok nmX4 hown hK hP hD hS 0 rfl rfl 2 (by decide) (hts (.fieldLink RX4 34 "FiberTrace$Link" "end" "I") (by decide +kernel)) (fun _ h9 => h9) rfl (by decide +kernel) rfl rfl (Nat.le_of_ble_eq_true rfl) dX4_copyFrom_21 (fun H locs hP hD hS => ?_)
  have hP : va_P D vwCl [(a0, .inr (4, [.int len2, .int att2, .int en2, .int (nI n), .ref ak, .ref ap, .ref al, .ref ar])), (ak, .inl (cI, 10, .inl kf)), (ap, .inl (cI, 10, .inl pf)), (al, .inl (cI, 10, .inl lf)), (ar, .inl (cI, 10, .inl rf)), (b0, .inr (4, [.int len2, .int att2, .int en2, .int (nI n2), .ref bk, .ref bp, .ref bl, .ref br])), (bk, .inl (cI, 10, .inl kg)), (bp, .inl (cI, 10, .inl pg)), (bl, .inl (cI, 10, .inl lg)), (br, .inl (cI, 10, .inl rg))] H := hP
  have hD : va_D A [(a0, .inr (4, [.int len2, .int att2, .int en2, .int (nI n), .ref ak, .ref ap, .ref al, .ref ar])), (ak, .inl (cI, 10, .inl kf)), (ap, .inl (cI, 10, .inl pf)), (al, .inl (cI, 10, .inl lf)), (ar, .inl (cI, 10, .inl rf)), (b0, .inr (4, [.int len2, .int att2, .int en2, .int (nI n2), .ref bk, .ref bp, .ref bl, .ref br])), (bk, .inl (cI, 10, .inl kg)), (bp, .inl (cI, 10, .inl pg)), (bl, .inl (cI, 10, .inl lg)), (br, .inl (cI, 10, .inl rg))] := hD
  refine lv_aload_n hx hb dX4_copyFrom_24 rfl (lv_at hl 0 rfl) ?_
  refine lv_aload_n hx hb dX4_copyFrom_25 rfl (lv_at hl 1 rfl) ?_
  refine va_get (D := D) (ci := 4) (v := .int (nI n2)) (C := RX4) (T := TX4) (N := 8) hx hb hts (by decide +kernel) hown hK hP 5 rfl rfl 3 (by decide) (hts (.fieldLink RX4 37 "FiberTrace$Link" "size" "I") (by decide +kernel)) (fun _ h9 => h9) rfl dX4_copyFrom_26 ?_
  refine va_put (D := D) (ci := 4) (v := .int (nI n2)) (ty := .int) (C := RX4) (T := TX4) (N := 8) hx hb hts (by decide +kernel) tyX4 tyX4_ok nmX4 hown hK hP hD hS 0 rfl rfl 3 (by decide) (hts (.fieldLink RX4 37 "FiberTrace$Link" "size" "I") (by decide +kernel)) (fun _ h9 => h9) rfl (by decide +kernel) rfl rfl (Nat.le_of_ble_eq_true rfl) dX4_copyFrom_29 (fun H locs hP hD hS => ?_)
  have hP : va_P D vwCl [(a0, .inr (4, [.int len2, .int att2, .int en2, .int (nI n2), .ref ak, .ref ap, .ref al, .ref ar])), (ak, .inl (cI, 10, .inl kf)), (ap, .inl (cI, 10, .inl pf)), (al, .inl (cI, 10, .inl lf)), (ar, .inl (cI, 10, .inl rf)), (b0, .inr (4, [.int len2, .int att2, .int en2, .int (nI n2), .ref bk, .ref bp, .ref bl, .ref br])), (bk, .inl (cI, 10, .inl kg)), (bp, .inl (cI, 10, .inl pg)), (bl, .inl (cI, 10, .inl lg)), (br, .inl (cI, 10, .inl rg))] H := hP
  have hD : va_D A [(a0, .inr (4, [.int len2, .int att2, .int en2, .int (nI n2), .ref ak, .ref ap, .ref al, .ref ar])), (ak, .inl (cI, 10, .inl kf)), (ap, .inl (cI, 10, .inl pf)), (al, .inl (cI, 10, .inl lf)), (ar, .inl (cI, 10, .inl rf)), (b0, .inr (4, [.int len2, .int att2, .int en2, .int (nI n2), .ref bk, .ref bp, .ref bl, .ref br])), (bk, .inl (cI, 10, .inl kg)), (bp, .inl (cI, 10, .inl pg)), (bl, .inl (cI, 10, .inl lg)), (br, .inl (cI, 10, .inl rg))] := hD
  refine lv_aload_n hx hb dX4_copyFrom_32 rfl (lv_at hl 1 rfl) ?_
  refine va_get (D := D) (ci := 4) (v := .ref bk) (C := RX4) (T := TX4) (N := 8) hx hb hts (by decide +kernel) hown hK hP 5 rfl rfl 4 (by decide) (hts (.fieldLink RX4 9 "FiberTrace$Link" "kinds" "[I") (by decide +kernel)) (fun _ h9 => h9) rfl dX4_copyFrom_33 ?_
  refine lv_iconst (v := 0) hx hb dX4_copyFrom_36 (by decide) ?_
  refine lv_aload_n hx hb dX4_copyFrom_37 rfl (lv_at hl 0 rfl) ?_
  refine va_get (D := D) (ci := 4) (v := .ref ak) (C := RX4) (T := TX4) (N := 8) hx hb hts (by decide +kernel) hown hK hP 0 rfl rfl 4 (by decide) (hts (.fieldLink RX4 9 "FiberTrace$Link" "kinds" "[I") (by decide +kernel)) (fun _ h9 => h9) rfl dX4_copyFrom_38 ?_
  refine lv_iconst (v := 0) hx hb dX4_copyFrom_41 (by decide) ?_
  refine lv_bipush (v := 10) hx hb dX4_copyFrom_42 (by decide) ?_
  refine va_copyi hx hb (hml.trans hl.1.symm) hown (hts (.methodLink RX4 40 arraycopyName) (by decide +kernel)) (hts (.native arraycopyName) (by decide +kernel)) (hts (.static arraycopyName) (by decide +kernel)) (hts (.initialized "java/lang/System") (by decide +kernel)) hK hP hD hS 6 1 0 0 rfl rfl rfl rfl rfl (by decide) (by decide) (by decide) (by decide) (by decide) (fun _ _ => rfl) (Nat.le_of_ble_eq_true rfl) (Nat.le_of_ble_eq_true rfl) dX4_copyFrom_44 (fun H locs hP hD hS => ?_)
  have hP : va_P D vwCl [(a0, .inr (4, [.int len2, .int att2, .int en2, .int (nI n2), .ref ak, .ref ap, .ref al, .ref ar])), (ak, .inl (cI, 10, .inl (va_cpy kg kf 0 0 10))), (ap, .inl (cI, 10, .inl pf)), (al, .inl (cI, 10, .inl lf)), (ar, .inl (cI, 10, .inl rf)), (b0, .inr (4, [.int len2, .int att2, .int en2, .int (nI n2), .ref bk, .ref bp, .ref bl, .ref br])), (bk, .inl (cI, 10, .inl kg)), (bp, .inl (cI, 10, .inl pg)), (bl, .inl (cI, 10, .inl lg)), (br, .inl (cI, 10, .inl rg))] H := hP
  have hD : va_D A [(a0, .inr (4, [.int len2, .int att2, .int en2, .int (nI n2), .ref ak, .ref ap, .ref al, .ref ar])), (ak, .inl (cI, 10, .inl (va_cpy kg kf 0 0 10))), (ap, .inl (cI, 10, .inl pf)), (al, .inl (cI, 10, .inl lf)), (ar, .inl (cI, 10, .inl rf)), (b0, .inr (4, [.int len2, .int att2, .int en2, .int (nI n2), .ref bk, .ref bp, .ref bl, .ref br])), (bk, .inl (cI, 10, .inl kg)), (bp, .inl (cI, 10, .inl pg)), (bl, .inl (cI, 10, .inl lg)), (br, .inl (cI, 10, .inl rg))] := hD
  refine lv_aload_n hx hb dX4_copyFrom_47 rfl (lv_at hl 1 rfl) ?_
  refine va_get (D := D) (ci := 4) (v := .ref bp) (C := RX4) (T := TX4) (N := 8) hx hb hts (by decide +kernel) hown hK hP 5 rfl rfl 5 (by decide) (hts (.fieldLink RX4 15 "FiberTrace$Link" "places" "[I") (by decide +kernel)) (fun _ h9 => h9) rfl dX4_copyFrom_48 ?_
  refine lv_iconst (v := 0) hx hb dX4_copyFrom_51 (by decide) ?_
  refine lv_aload_n hx hb dX4_copyFrom_52 rfl (lv_at hl 0 rfl) ?_
  refine va_get (D := D) (ci := 4) (v := .ref ap) (C := RX4) (T := TX4) (N := 8) hx hb hts (by decide +kernel) hown hK hP 0 rfl rfl 5 (by decide) (hts (.fieldLink RX4 15 "FiberTrace$Link" "places" "[I") (by decide +kernel)) (fun _ h9 => h9) rfl dX4_copyFrom_53 ?_
  refine lv_iconst (v := 0) hx hb dX4_copyFrom_56 (by decide) ?_
  refine lv_bipush (v := 10) hx hb dX4_copyFrom_57 (by decide) ?_
  refine va_copyi hx hb (hml.trans hl.1.symm) hown (hts (.methodLink RX4 40 arraycopyName) (by decide +kernel)) (hts (.native arraycopyName) (by decide +kernel)) (hts (.static arraycopyName) (by decide +kernel)) (hts (.initialized "java/lang/System") (by decide +kernel)) hK hP hD hS 7 2 0 0 rfl rfl rfl rfl rfl (by decide) (by decide) (by decide) (by decide) (by decide) (fun _ _ => rfl) (Nat.le_of_ble_eq_true rfl) (Nat.le_of_ble_eq_true rfl) dX4_copyFrom_59 (fun H locs hP hD hS => ?_)
  have hP : va_P D vwCl [(a0, .inr (4, [.int len2, .int att2, .int en2, .int (nI n2), .ref ak, .ref ap, .ref al, .ref ar])), (ak, .inl (cI, 10, .inl (va_cpy kg kf 0 0 10))), (ap, .inl (cI, 10, .inl (va_cpy pg pf 0 0 10))), (al, .inl (cI, 10, .inl lf)), (ar, .inl (cI, 10, .inl rf)), (b0, .inr (4, [.int len2, .int att2, .int en2, .int (nI n2), .ref bk, .ref bp, .ref bl, .ref br])), (bk, .inl (cI, 10, .inl kg)), (bp, .inl (cI, 10, .inl pg)), (bl, .inl (cI, 10, .inl lg)), (br, .inl (cI, 10, .inl rg))] H := hP
  have hD : va_D A [(a0, .inr (4, [.int len2, .int att2, .int en2, .int (nI n2), .ref ak, .ref ap, .ref al, .ref ar])), (ak, .inl (cI, 10, .inl (va_cpy kg kf 0 0 10))), (ap, .inl (cI, 10, .inl (va_cpy pg pf 0 0 10))), (al, .inl (cI, 10, .inl lf)), (ar, .inl (cI, 10, .inl rf)), (b0, .inr (4, [.int len2, .int att2, .int en2, .int (nI n2), .ref bk, .ref bp, .ref bl, .ref br])), (bk, .inl (cI, 10, .inl kg)), (bp, .inl (cI, 10, .inl pg)), (bl, .inl (cI, 10, .inl lg)), (br, .inl (cI, 10, .inl rg))] := hD
  refine lv_aload_n hx hb dX4_copyFrom_62 rfl (lv_at hl 1 rfl) ?_
  refine va_get (D := D) (ci := 4) (v := .ref bl) (C := RX4) (T := TX4) (N := 8) hx hb hts (by decide +kernel) hown hK hP 5 rfl rfl 6 (by decide) (hts (.fieldLink RX4 18 "FiberTrace$Link" "losses" "[I") (by decide +kernel)) (fun _ h9 => h9) rfl dX4_copyFrom_63 ?_
  refine lv_iconst (v := 0) hx hb dX4_copyFrom_66 (by decide) ?_
  refine lv_aload_n hx hb dX4_copyFrom_67 rfl (lv_at hl 0 rfl) ?_
  refine va_get (D := D) (ci := 4) (v := .ref al) (C := RX4) (T := TX4) (N := 8) hx hb hts (by decide +kernel) hown hK hP 0 rfl rfl 6 (by decide) (hts (.fieldLink RX4 18 "FiberTrace$Link" "losses" "[I") (by decide +kernel)) (fun _ h9 => h9) rfl dX4_copyFrom_68 ?_
  refine lv_iconst (v := 0) hx hb dX4_copyFrom_71 (by decide) ?_
  refine lv_bipush (v := 10) hx hb dX4_copyFrom_72 (by decide) ?_
  refine va_copyi hx hb (hml.trans hl.1.symm) hown (hts (.methodLink RX4 40 arraycopyName) (by decide +kernel)) (hts (.native arraycopyName) (by decide +kernel)) (hts (.static arraycopyName) (by decide +kernel)) (hts (.initialized "java/lang/System") (by decide +kernel)) hK hP hD hS 8 3 0 0 rfl rfl rfl rfl rfl (by decide) (by decide) (by decide) (by decide) (by decide) (fun _ _ => rfl) (Nat.le_of_ble_eq_true rfl) (Nat.le_of_ble_eq_true rfl) dX4_copyFrom_74 (fun H locs hP hD hS => ?_)
  have hP : va_P D vwCl [(a0, .inr (4, [.int len2, .int att2, .int en2, .int (nI n2), .ref ak, .ref ap, .ref al, .ref ar])), (ak, .inl (cI, 10, .inl (va_cpy kg kf 0 0 10))), (ap, .inl (cI, 10, .inl (va_cpy pg pf 0 0 10))), (al, .inl (cI, 10, .inl (va_cpy lg lf 0 0 10))), (ar, .inl (cI, 10, .inl rf)), (b0, .inr (4, [.int len2, .int att2, .int en2, .int (nI n2), .ref bk, .ref bp, .ref bl, .ref br])), (bk, .inl (cI, 10, .inl kg)), (bp, .inl (cI, 10, .inl pg)), (bl, .inl (cI, 10, .inl lg)), (br, .inl (cI, 10, .inl rg))] H := hP
  have hD : va_D A [(a0, .inr (4, [.int len2, .int att2, .int en2, .int (nI n2), .ref ak, .ref ap, .ref al, .ref ar])), (ak, .inl (cI, 10, .inl (va_cpy kg kf 0 0 10))), (ap, .inl (cI, 10, .inl (va_cpy pg pf 0 0 10))), (al, .inl (cI, 10, .inl (va_cpy lg lf 0 0 10))), (ar, .inl (cI, 10, .inl rf)), (b0, .inr (4, [.int len2, .int att2, .int en2, .int (nI n2), .ref bk, .ref bp, .ref bl, .ref br])), (bk, .inl (cI, 10, .inl kg)), (bp, .inl (cI, 10, .inl pg)), (bl, .inl (cI, 10, .inl lg)), (br, .inl (cI, 10, .inl rg))] := hD
  refine lv_aload_n hx hb dX4_copyFrom_77 rfl (lv_at hl 1 rfl) ?_
  refine va_get (D := D) (ci := 4) (v := .ref br) (C := RX4) (T := TX4) (N := 8) hx hb hts (by decide +kernel) hown hK hP 5 rfl rfl 7 (by decide) (hts (.fieldLink RX4 21 "FiberTrace$Link" "reflections" "[I") (by decide +kernel)) (fun _ h9 => h9) rfl dX4_copyFrom_78 ?_
  refine lv_iconst (v := 0) hx hb dX4_copyFrom_81 (by decide) ?_
  refine lv_aload_n hx hb dX4_copyFrom_82 rfl (lv_at hl 0 rfl) ?_
  refine va_get (D := D) (ci := 4) (v := .ref ar) (C := RX4) (T := TX4) (N := 8) hx hb hts (by decide +kernel) hown hK hP 0 rfl rfl 7 (by decide) (hts (.fieldLink RX4 21 "FiberTrace$Link" "reflections" "[I") (by decide +kernel)) (fun _ h9 => h9) rfl dX4_copyFrom_83 ?_
  refine lv_iconst (v := 0) hx hb dX4_copyFrom_86 (by decide) ?_
  refine lv_bipush (v := 10) hx hb dX4_copyFrom_87 (by decide) ?_
  refine va_copyi hx hb (hml.trans hl.1.symm) hown (hts (.methodLink RX4 40 arraycopyName) (by decide +kernel)) (hts (.native arraycopyName) (by decide +kernel)) (hts (.static arraycopyName) (by decide +kernel)) (hts (.initialized "java/lang/System") (by decide +kernel)) hK hP hD hS 9 4 0 0 rfl rfl rfl rfl rfl (by decide) (by decide) (by decide) (by decide) (by decide) (fun _ _ => rfl) (Nat.le_of_ble_eq_true rfl) (Nat.le_of_ble_eq_true rfl) dX4_copyFrom_89 (fun H locs hP hD hS => ?_)
  have hP : va_P D vwCl [(a0, .inr (4, [.int len2, .int att2, .int en2, .int (nI n2), .ref ak, .ref ap, .ref al, .ref ar])), (ak, .inl (cI, 10, .inl (va_cpy kg kf 0 0 10))), (ap, .inl (cI, 10, .inl (va_cpy pg pf 0 0 10))), (al, .inl (cI, 10, .inl (va_cpy lg lf 0 0 10))), (ar, .inl (cI, 10, .inl (va_cpy rg rf 0 0 10))), (b0, .inr (4, [.int len2, .int att2, .int en2, .int (nI n2), .ref bk, .ref bp, .ref bl, .ref br])), (bk, .inl (cI, 10, .inl kg)), (bp, .inl (cI, 10, .inl pg)), (bl, .inl (cI, 10, .inl lg)), (br, .inl (cI, 10, .inl rg))] H := hP
  have hD : va_D A [(a0, .inr (4, [.int len2, .int att2, .int en2, .int (nI n2), .ref ak, .ref ap, .ref al, .ref ar])), (ak, .inl (cI, 10, .inl (va_cpy kg kf 0 0 10))), (ap, .inl (cI, 10, .inl (va_cpy pg pf 0 0 10))), (al, .inl (cI, 10, .inl (va_cpy lg lf 0 0 10))), (ar, .inl (cI, 10, .inl (va_cpy rg rf 0 0 10))), (b0, .inr (4, [.int len2, .int att2, .int en2, .int (nI n2), .ref bk, .ref bp, .ref bl, .ref br])), (bk, .inl (cI, 10, .inl kg)), (bp, .inl (cI, 10, .inl pg)), (bl, .inl (cI, 10, .inl lg)), (br, .inl (cI, 10, .inl rg))] := hD
  have hw9 : ([(a0, .inr (4, [.int len2, .int att2, .int en2, .int (nI n2), .ref ak, .ref ap, .ref al, .ref ar])), (ak, .inl (cI, 10, .inl (va_cpy kg kf 0 0 10))), (ap, .inl (cI, 10, .inl (va_cpy pg pf 0 0 10))), (al, .inl (cI, 10, .inl (va_cpy lg lf 0 0 10))), (ar, .inl (cI, 10, .inl (va_cpy rg rf 0 0 10))), (b0, .inr (4, [.int len2, .int att2, .int en2, .int (nI n2), .ref bk, .ref bp, .ref bl, .ref br])), (bk, .inl (cI, 10, .inl kg)), (bp, .inl (cI, 10, .inl pg)), (bl, .inl (cI, 10, .inl lg)), (br, .inl (cI, 10, .inl rg))] : va_W) = [(a0, .inr (4, [.int len2, .int att2, .int en2, .int (nI n2), .ref ak, .ref ap, .ref al, .ref ar])), (ak, .inl (cI, 10, .inl (va_cpy kg kf 0 0 10))), (ap, .inl (cI, 10, .inl (va_cpy pg pf 0 0 10))), (al, .inl (cI, 10, .inl (va_cpy lg lf 0 0 10))), (ar, .inl (cI, 10, .inl (va_cpy rg rf 0 0 10))), (b0, .inr (4, [.int len2, .int att2, .int en2, .int (nI n2), .ref bk, .ref bp, .ref bl, .ref br])), (bk, .inl (cI, 10, .inl kg)), (bp, .inl (cI, 10, .inl pg)), (bl, .inl (cI, 10, .inl lg)), (br, .inl (cI, 10, .inl rg))] := rfl
  rw [hw9] at hP hD
  exact W.vret hx hb hr (fun t ht hW => ⟨⟨(), rfl, trivial, by rw [ht]; exact hP, by rw [hAe]; exact hD⟩, by rw [hAe]; exact hS.F ht⟩) hS.2.2 dX4_copyFrom_92
end
section
/-! noise: the draws -/
def ftMod (x y : Int32) : Int32 := if y = 0 then 0 else ftRemI x y
def ftZ1 (z : Int32) : Int32 := ftRemI (z * 75 + 74) 65537
/-- k draws from z: the number behind them, their sum -/
def ftDraw (a : Int32) (z : Int32) : Nat → Int32 × Int32
  | 0 => (z, 0)
  | k + 1 => (ftZ1 (ftDraw a z k).1, (ftDraw a z k).2 + (ftMod (ftZ1 (ftDraw a z k).1) (2 * a + 1) - a))
def ftNz (a z : Int32) (p : Nat) : Int32 := if a = 0 then z else (ftDraw a z p).1
def ftNx (a z : Int32) (p : Nat) : Int32 := if a = 0 then 0 else ftQuot (ftDraw a z p).2 (nI p)
set_option maxHeartbeats 4000000 in
set_option maxRecDepth 100000 in
theorem c_X6_begin (l : Launch) (D : va_G) (cI cS : ClassId) (sz : Nat) (a0 : Nat) (z a : Int32) (b0 : Nat) (sf : Nat → Int32)  : Met l yX6_begin wsX6_begin ({ frames := 1, cells := 0, slots := 0, locals := 21 }) (ftRW D cI cS [.ref a0, .ref b0] [(a0, .inr (6, [.int z, .int a])), (b0, .inl (cI, 11, .inl sf))] sz) (ftQv D [(a0, .inr (6, [.int z, .int a])), (b0, .inl (cI, 11, .inl sf))] [(a0, .inr (6, [.int (sf 5), .int (sf 3)])), (b0, .inl (cI, 11, .inl sf))] sz) 0 0 (va_A [(a0, .inr (6, [.int z, .int a])), (b0, .inl (cI, 11, .inl sf))] sz) := by
  refine Met.ofW (cc := cX6_begin) (maxL := 2) (ret := none) (by decide) rfl ?_
  intro p e s m args below meth c s₁ B hml hv
  obtain ⟨rfl, hsz, hP, hKK, hD0⟩ := hv
  have hK := hKK.1
  have hx := B.exec
  have hb := B.bytes
  have hr := B.returns
  have hts := atoms_spec (ws := wsX6_begin) B.pre
  have hown : s.vm.findClass RX6 = some m.cls := findClass_of_methodNamed B.named
  have hlocks := B.notSynchronized
  subst hsz
  have hD := hD0.self (sz := s.heap.size)
  generalize hAe : va_A [(a0, .inr (6, [.int z, .int a])), (b0, .inl (cI, 11, .inl sf))] s.heap.size = A at hD ⊢
  have hA : ∀ q : Nat, s.heap.size ≤ q → A q := fun q h => by rw [← hAe]; exact Or.inr h
  have hS : va_S A s.heap s.heap [] := va_S.rf
  have hD : va_D A [(a0, .inr (6, [.int z, .int a])), (b0, .inl (cI, 11, .inl sf))] := hD
  have hP : va_P D vwCl [(a0, .inr (6, [.int z, .int a])), (b0, .inl (cI, 11, .inl sf))] s.heap := hP
  have hl := lv_entry ([.ref a0, .ref b0]) (n := 2) (Nat.le_of_ble_eq_true rfl)
  rw [lg_entry_eq]
  generalize (lg_sl ([.ref a0, .ref b0]) ++ List.replicate (2 - (lg_sl ([.ref a0, .ref b0])).length) Slot.unset).toArray = ls at hl ⊢
  have hl : lv_has ls 2 [(0, .ref a0), (1, .ref b0)] := hl
  refine lv_aload_n hx hb dX6_begin_0 rfl (lv_at hl 0 rfl) ?_
  refine lv_aload_n hx hb dX6_begin_1 rfl (lv_at hl 1 rfl) ?_
  refine lv_iconst (v := 5) hx hb dX6_begin_2 (by decide) ?_
  refine ft_csi (r := ftAt 11 sf 5) (va_runSN (As := [.ref b0, .int 5]) (rest := [.ref a0]) ⟨hx, hb, hml, hown, hts⟩ (c_X10_at l D cI cS b0 11 sf 5 (by first | assumption | omega)) ⟨va_cnB 2 hts gX6_begin_X10_at_n9 rfl rfl rfl (hKK.2 _ (List.mem_of_getElem? (i := 20) rfl)) (hts (.initialized RX10) (by decide +kernel)) (by decide +kernel) ⟨Nat.le_of_ble_eq_true rfl, Nat.le_of_ble_eq_true rfl⟩, hts (.static yX10_at) (by decide +kernel), trivial⟩ (ft_preRO hP hKK [1] rfl) rfl rfl hl.1 rfl (lv_room (Nat.le_of_ble_eq_true rfl)) dX6_begin_3 ⟨Nat.le_of_ble_eq_true rfl, Nat.le_of_ble_eq_true rfl⟩) ?_
  refine ft_top (y := sf 5) (ftAt_N (k := 5) (by omega) (by omega)) ?_
  refine va_put (D := D) (ci := 6) (v := .int (sf 5)) (ty := .int) (C := RX6) (T := TX6) (N := 2) hx hb hts (by decide +kernel) tyX6 tyX6_ok nmX6 hown hK hP hD hS 0 rfl rfl 0 (by decide) (hts (.fieldLink RX6 13 "FiberTrace$Noise" "z" "I") (by decide +kernel)) (fun _ h9 => h9) rfl (by decide +kernel) rfl rfl (Nat.le_of_ble_eq_true rfl) dX6_begin_6 (fun H locs hP hD hS => ?_)
  have hP : va_P D vwCl [(a0, .inr (6, [.int (sf 5), .int a])), (b0, .inl (cI, 11, .inl sf))] H := hP
  have hD : va_D A [(a0, .inr (6, [.int (sf 5), .int a])), (b0, .inl (cI, 11, .inl sf))] := hD
  refine lv_aload_n hx hb dX6_begin_9 rfl (lv_at hl 0 rfl) ?_
  refine lv_aload_n hx hb dX6_begin_10 rfl (lv_at hl 1 rfl) ?_
  refine lv_iconst (v := 3) hx hb dX6_begin_11 (by decide) ?_
  refine ft_csi (r := ftAt 11 sf 3) (va_runSN (As := [.ref b0, .int 3]) (rest := [.ref a0]) ⟨hx, hb, hml, hown, hts⟩ (c_X10_at l D cI cS b0 11 sf 3 (by first | assumption | omega)) ⟨va_cnB 2 hts gX6_begin_X10_at_n9 rfl rfl rfl (hKK.2 _ (List.mem_of_getElem? (i := 20) rfl)) (hts (.initialized RX10) (by decide +kernel)) (by decide +kernel) ⟨Nat.le_of_ble_eq_true rfl, Nat.le_of_ble_eq_true rfl⟩, hts (.static yX10_at) (by decide +kernel), trivial⟩ (ft_preRO hP hKK [1] rfl) rfl rfl hl.1 rfl (lv_room (Nat.le_of_ble_eq_true rfl)) dX6_begin_12 ⟨Nat.le_of_ble_eq_true rfl, Nat.le_of_ble_eq_true rfl⟩) ?_
  refine ft_top (y := sf 3) (ftAt_N (k := 3) (by omega) (by omega)) ?_
  refine va_put (D := D) (ci := 6) (v := .int (sf 3)) (ty := .int) (C := RX6) (T := TX6) (N := 2) hx hb hts (by decide +kernel) tyX6 tyX6_ok nmX6 hown hK hP hD hS 0 rfl rfl 1 (by decide) (hts (.fieldLink RX6 19 "FiberTrace$Noise" "height" "I") (by decide +kernel)) (fun _ h9 => h9) rfl (by decide +kernel) rfl rfl (Nat.le_of_ble_eq_true rfl) dX6_begin_15 (fun H locs hP hD hS => ?_)
  have hP : va_P D vwCl [(a0, .inr (6, [.int (sf 5), .int (sf 3)])), (b0, .inl (cI, 11, .inl sf))] H := hP
  have hD : va_D A [(a0, .inr (6, [.int (sf 5), .int (sf 3)])), (b0, .inl (cI, 11, .inl sf))] := hD
  have hw9 : ([(a0, .inr (6, [.int (sf 5), .int (sf 3)])), (b0, .inl (cI, 11, .inl sf))] : va_W) = [(a0, .inr (6, [.int (sf 5), .int (sf 3)])), (b0, .inl (cI, 11, .inl sf))] := rfl
  rw [hw9] at hP hD
  exact W.vret hx hb hr (fun t ht hW => ⟨⟨(), rfl, trivial, by rw [ht]; exact hP, by rw [hAe]; exact hD⟩, by rw [hAe]; exact hS.F ht⟩) hS.2.2 dX6_begin_18
set_option maxHeartbeats 4000000 in
set_option maxRecDepth 100000 in
theorem c_X6_next (l : Launch) (D : va_G) (cI cS : ClassId) (sz : Nat) (a0 : Nat) (z a : Int32) (pu : Nat) (hp : pu < 2 ^ 31) : Met l yX6_next wsX6_next ({ frames := 1, cells := 0, slots := 0, locals := 21 }) (ftRW D cI cS [.ref a0, .int (nI pu)] [(a0, .inr (6, [.int z, .int a]))] sz) (ftQi D (ftNx a z pu) [(a0, .inr (6, [.int z, .int a]))] [(a0, .inr (6, [.int (ftNz a z pu), .int a]))] sz) 0 0 (va_A [(a0, .inr (6, [.int z, .int a]))] sz) := by
  refine Met.ofW (cc := cX6_next) (maxL := 5) (ret := (some .int)) (by decide) rfl ?_
  intro p e s m args below meth c s₁ B hml hv
  obtain ⟨rfl, hsz, hP, hKK, hD0⟩ := hv
  have hK := hKK.1
  have hx := B.exec
  have hb := B.bytes
  have hr := B.returns
  have hts := atoms_spec (ws := wsX6_next) B.pre
  have hown : s.vm.findClass RX6 = some m.cls := findClass_of_methodNamed B.named
  have hlocks := B.notSynchronized
  subst hsz
  have hD := hD0.self (sz := s.heap.size)
  generalize hAe : va_A [(a0, .inr (6, [.int z, .int a]))] s.heap.size = A at hD ⊢
  have hA : ∀ q : Nat, s.heap.size ≤ q → A q := fun q h => by rw [← hAe]; exact Or.inr h
  have hS : va_S A s.heap s.heap [] := va_S.rf
  have hD : va_D A [(a0, .inr (6, [.int z, .int a]))] := hD
  have hP : va_P D vwCl [(a0, .inr (6, [.int z, .int a]))] s.heap := hP
  have hl := lv_entry ([.ref a0, .int (nI pu)]) (n := 5) (Nat.le_of_ble_eq_true rfl)
  rw [lg_entry_eq]
  generalize (lg_sl ([.ref a0, .int (nI pu)]) ++ List.replicate (5 - (lg_sl ([.ref a0, .int (nI pu)])).length) Slot.unset).toArray = ls at hl ⊢
  have hl : lv_has ls 5 [(0, .ref a0), (1, .int (nI pu))] := hl
  refine lv_aload_n hx hb dX6_next_0 rfl (lv_at hl 0 rfl) ?_
  refine va_get (D := D) (ci := 6) (v := .int a) (C := RX6) (T := TX6) (N := 2) hx hb hts (by decide +kernel) hown hK hP 0 rfl rfl 1 (by decide) (hts (.fieldLink RX6 19 "FiberTrace$Noise" "height" "I") (by decide +kernel)) (fun _ h9 => h9) rfl dX6_next_1 ?_
  refine lv_if_ne (tgt := 9) hx hb dX6_next_4 (by decide) (fun c4 => ?_) (fun c4 => ?_)
  · refine lv_iconst (v := 2) hx hb dX6_next_9 (by decide) ?_
    refine lv_aload_n hx hb dX6_next_10 rfl (lv_at hl 0 rfl) ?_
    refine va_get (D := D) (ci := 6) (v := .int a) (C := RX6) (T := TX6) (N := 2) hx hb hts (by decide +kernel) hown hK hP 0 rfl rfl 1 (by decide) (hts (.fieldLink RX6 19 "FiberTrace$Noise" "height" "I") (by decide +kernel)) (fun _ h9 => h9) rfl dX6_next_11 ?_
    refine lv_imul hx hb dX6_next_14 ?_
    refine lv_iconst (v := 1) hx hb dX6_next_15 (by decide) ?_
    refine lv_iadd hx hb dX6_next_16 ?_
    refine lv_istore_n (lv' := [(2, .int ((2 * a) + 1)), (0, .ref a0), (1, .int (nI pu))]) hx hb dX6_next_17 rfl hl (by decide) rfl (fun ls hl => ?_)
    refine lv_iconst (v := 0) hx hb dX6_next_18 (by decide) ?_
    refine lv_istore_n (lv' := [(3, .int 0), (2, .int ((2 * a) + 1)), (0, .ref a0), (1, .int (nI pu))]) hx hb dX6_next_19 rfl hl (by decide) rfl (fun ls hl => ?_)
    refine lv_iconst (v := 0) hx hb dX6_next_20 (by decide) ?_
    refine lv_istore (lv' := [(4, .int 0), (3, .int 0), (2, .int ((2 * a) + 1)), (0, .ref a0), (1, .int (nI pu))]) hx hb dX6_next_21 hl (by decide) rfl (fun ls hl => ?_)
    have lp23 : ∀ (n23 : Nat) (k : Nat) (x23_3 : Int32) (x23_4 : Int32) (g23_a0_0 : Int32), pu - k < n23 → (k ≤ pu) → x23_3 = (ftDraw a z k).2 → x23_4 = nI k → g23_a0_0 = (ftDraw a z k).1 → ∀ (H : Heap) (locs : List Loc), va_P D vwCl [(a0, .inr (6, [.int g23_a0_0, .int a]))] H → va_D A [(a0, .inr (6, [.int g23_a0_0, .int a]))] → va_S A s.heap H locs → ∀ ls : Array Slot, lv_has ls 5 [(0, .ref a0), (1, .int (nI pu)), (2, .int ((2 * a) + 1)), (3, .int x23_3), (4, .int x23_4)] → W p l e (headSpec wsX6_next { frames := 1, cells := 0, slots := 0, locals := 21 }).room s m ([.ref a0, .int (nI pu)] : List Value).toArray below meth c H locs 0 0 (MQ below (ftQi D (ftNx a z pu) [(a0, .inr (6, [.int z, .int a]))] [(a0, .inr (6, [.int (ftNz a z pu), .int a]))] s.heap.size) ([.ref a0, .int (nI pu)] : List Value).toArray s 0 0 A) (F0 m 23 ls []) := by
      intro n23
      induction n23 with
      | zero =>
        intro k x23_3 x23_4 g23_a0_0 hm23
        exact absurd hm23 (Nat.not_lt_zero _)
      | succ n23 ih23 =>
        intro k x23_3 x23_4 g23_a0_0 hm23 hk ex23_3 ex23_4 eg23_a0_0 H locs hP hD hS ls hl
        subst ex23_4
        refine lv_iload hx hb dX6_next_23 (lv_at hl 4 rfl) ?_
        refine lv_iload_n hx hb dX6_next_25 rfl (lv_at hl 1 rfl) ?_
        refine lv_icmp_ge (tgt := 74) hx hb dX6_next_26 (by decide) (fun c26 => ?_) (fun c26 => ?_)
        · have c26n : pu ≤ k := ft_leN (by omega) (by omega) c26
          refine lv_iload_n hx hb dX6_next_74 rfl (lv_at hl 3 rfl) ?_
          refine lv_iload_n hx hb dX6_next_75 rfl (lv_at hl 1 rfl) ?_
          refine ft_csi (r := ftQuot x23_3 (nI pu)) (va_runSN (As := [.int x23_3, .int (nI pu)]) (rest := []) ⟨hx, hb, hml, hown, hts⟩ (c_X10_quotient l D cI cS x23_3 (nI pu)) ⟨va_cnB 2 hts gX6_next_X10_quotient_n23 rfl rfl rfl (hKK.2 _ (List.mem_of_getElem? (i := 21) rfl)) (hts (.initialized RX10) (by decide +kernel)) (by decide +kernel) ⟨Nat.le_of_ble_eq_true rfl, Nat.le_of_ble_eq_true rfl⟩, hts (.static yX10_quotient) (by decide +kernel), trivial⟩ (ft_preRO hP hKK [] rfl) rfl rfl hl.1 rfl (lv_room (Nat.le_of_ble_eq_true rfl)) dX6_next_76 ⟨Nat.le_of_ble_eq_true rfl, Nat.le_of_ble_eq_true rfl⟩) ?_
          have hw9 : ([(a0, .inr (6, [.int g23_a0_0, .int a]))] : va_W) = [(a0, .inr (6, [.int (ftNz a z pu), .int a]))] := by (obtain rfl : k = pu := by omega); rw [ftNz, if_neg c4, eg23_a0_0]
          rw [hw9] at hP hD
          exact W.iret (v := ftQuot x23_3 (nI pu)) hx hb hr (fun t ht hW => ⟨⟨ftQuot x23_3 (nI pu), (), rfl, (by show (ftQuot x23_3 (nI pu) : Int32) = ftNx a z pu; (obtain rfl : k = pu := by omega); rw [ftNx, if_neg c4, ex23_3]), by rw [ht]; exact hP, by rw [hAe]; exact hD⟩, by rw [hAe]; exact hS.F ht⟩) hS.2.2 dX6_next_79
        · have c26n : k < pu := ft_nleN (by omega) (by omega) c26
          refine lv_aload_n hx hb dX6_next_29 rfl (lv_at hl 0 rfl) ?_
          refine lv_aload_n hx hb dX6_next_30 rfl (lv_at hl 0 rfl) ?_
          refine va_get (D := D) (ci := 6) (v := .int g23_a0_0) (C := RX6) (T := TX6) (N := 2) hx hb hts (by decide +kernel) hown hK hP 0 rfl rfl 0 (by decide) (hts (.fieldLink RX6 13 "FiberTrace$Noise" "z" "I") (by decide +kernel)) (fun _ h9 => h9) rfl dX6_next_31 ?_
          refine lv_bipush (v := 75) hx hb dX6_next_34 (by decide) ?_
          refine lv_imul hx hb dX6_next_36 ?_
          refine lv_bipush (v := 74) hx hb dX6_next_37 (by decide) ?_
          refine lv_iadd hx hb dX6_next_39 ?_
          refine lv_ldc (v := 65537) hx hb hown (hts (.constant RX6 22 65537) (by decide +kernel)) dX6_next_40 ?_
          refine lv_irem hx hb dX6_next_42 (by decide) ?_
          refine ft_top (y := ftRemI ((g23_a0_0 * 75) + 74) 65537) rfl ?_
          refine va_put (D := D) (ci := 6) (v := .int (ftRemI ((g23_a0_0 * 75) + 74) 65537)) (ty := .int) (C := RX6) (T := TX6) (N := 2) hx hb hts (by decide +kernel) tyX6 tyX6_ok nmX6 hown hK hP hD hS 0 rfl rfl 0 (by decide) (hts (.fieldLink RX6 13 "FiberTrace$Noise" "z" "I") (by decide +kernel)) (fun _ h9 => h9) rfl (by decide +kernel) rfl rfl (Nat.le_of_ble_eq_true rfl) dX6_next_43 (fun H locs hP hD hS => ?_)
          have hP : va_P D vwCl [(a0, .inr (6, [.int (ftRemI ((g23_a0_0 * 75) + 74) 65537), .int a]))] H := hP
          have hD : va_D A [(a0, .inr (6, [.int (ftRemI ((g23_a0_0 * 75) + 74) 65537), .int a]))] := hD
          refine lv_iload_n hx hb dX6_next_46 rfl (lv_at hl 3 rfl) ?_
          refine lv_iload_n hx hb dX6_next_47 rfl (lv_at hl 2 rfl) ?_
          refine lv_if_ne (tgt := 55) hx hb dX6_next_48 (by decide) (fun c48 => ?_) (fun c48 => ?_)
          · have h9 : ftMod (ftZ1 (ftDraw a z k).1) (2 * a + 1) = ftRemI (ftZ1 (ftDraw a z k).1) (2 * a + 1) := if_neg c48
            refine lv_aload_n hx hb dX6_next_55 rfl (lv_at hl 0 rfl) ?_
            refine va_get (D := D) (ci := 6) (v := .int (ftRemI ((g23_a0_0 * 75) + 74) 65537)) (C := RX6) (T := TX6) (N := 2) hx hb hts (by decide +kernel) hown hK hP 0 rfl rfl 0 (by decide) (hts (.fieldLink RX6 13 "FiberTrace$Noise" "z" "I") (by decide +kernel)) (fun _ h9 => h9) rfl dX6_next_56 ?_
            refine lv_iload_n hx hb dX6_next_59 rfl (lv_at hl 2 rfl) ?_
            refine lv_irem hx hb dX6_next_60 c48 ?_
            refine ft_top (y := ftRemI (ftRemI ((g23_a0_0 * 75) + 74) 65537) ((2 * a) + 1)) rfl ?_
            refine lv_aload_n hx hb dX6_next_61 rfl (lv_at hl 0 rfl) ?_
            refine va_get (D := D) (ci := 6) (v := .int a) (C := RX6) (T := TX6) (N := 2) hx hb hts (by decide +kernel) hown hK hP 0 rfl rfl 1 (by decide) (hts (.fieldLink RX6 19 "FiberTrace$Noise" "height" "I") (by decide +kernel)) (fun _ h9 => h9) rfl dX6_next_62 ?_
            refine lv_isub hx hb dX6_next_65 ?_
            refine lv_iadd hx hb dX6_next_66 ?_
            refine lv_istore_n (lv' := [(3, .int (x23_3 + ((ftRemI (ftRemI ((g23_a0_0 * 75) + 74) 65537) ((2 * a) + 1)) - a))), (0, .ref a0), (1, .int (nI pu)), (2, .int ((2 * a) + 1)), (4, .int (nI k))]) hx hb dX6_next_67 rfl hl (by decide) rfl (fun ls hl => ?_)
            refine lv_iinc (v := nI (k + 1)) (lv' := [(4, .int (nI (k + 1))), (3, .int (x23_3 + ((ftRemI (ftRemI ((g23_a0_0 * 75) + 74) 65537) ((2 * a) + 1)) - a))), (0, .ref a0), (1, .int (nI pu)), (2, .int ((2 * a) + 1))]) hx hb dX6_next_68 hl (k := 4) rfl (ft_inc k) (by decide) rfl (fun ls hl => ?_)
            refine lv_goto (tgt := 23) hx hb dX6_next_71 (by decide) ?_
            exact ih23 (k + 1) (x23_3 + ((ftRemI (ftRemI ((g23_a0_0 * 75) + 74) 65537) ((2 * a) + 1)) - a)) (nI (k + 1)) (ftRemI ((g23_a0_0 * 75) + 74) 65537) (by omega) (by omega) (by show _ = (ftDraw a z k).2 + (ftMod (ftZ1 (ftDraw a z k).1) (2 * a + 1) - a); first | (rw [ex23_3, eg23_a0_0, h9]; rfl) | rw [ex23_3, h9]) (by first | rfl | assumption) (by rw [eg23_a0_0]; rfl) _ _ hP hD hS ls (lv_sub hl [2, 3, 4, 1, 0] rfl)
          · have h9 : ftMod (ftZ1 (ftDraw a z k).1) (2 * a + 1) = 0 := if_pos c48
            refine lv_iconst (v := 0) hx hb dX6_next_51 (by decide) ?_
            refine lv_goto (tgt := 61) hx hb dX6_next_52 (by decide) ?_
            refine lv_aload_n hx hb dX6_next_61 rfl (lv_at hl 0 rfl) ?_
            refine va_get (D := D) (ci := 6) (v := .int a) (C := RX6) (T := TX6) (N := 2) hx hb hts (by decide +kernel) hown hK hP 0 rfl rfl 1 (by decide) (hts (.fieldLink RX6 19 "FiberTrace$Noise" "height" "I") (by decide +kernel)) (fun _ h9 => h9) rfl dX6_next_62 ?_
            refine lv_isub hx hb dX6_next_65 ?_
            refine lv_iadd hx hb dX6_next_66 ?_
            refine lv_istore_n (lv' := [(3, .int (x23_3 + (0 - a))), (0, .ref a0), (1, .int (nI pu)), (2, .int ((2 * a) + 1)), (4, .int (nI k))]) hx hb dX6_next_67 rfl hl (by decide) rfl (fun ls hl => ?_)
            refine lv_iinc (v := nI (k + 1)) (lv' := [(4, .int (nI (k + 1))), (3, .int (x23_3 + (0 - a))), (0, .ref a0), (1, .int (nI pu)), (2, .int ((2 * a) + 1))]) hx hb dX6_next_68 hl (k := 4) rfl (ft_inc k) (by decide) rfl (fun ls hl => ?_)
            refine lv_goto (tgt := 23) hx hb dX6_next_71 (by decide) ?_
            exact ih23 (k + 1) (x23_3 + (0 - a)) (nI (k + 1)) (ftRemI ((g23_a0_0 * 75) + 74) 65537) (by omega) (by omega) (by show _ = (ftDraw a z k).2 + (ftMod (ftZ1 (ftDraw a z k).1) (2 * a + 1) - a); first | (rw [ex23_3, eg23_a0_0, h9]; rfl) | rw [ex23_3, h9]) (by first | rfl | assumption) (by rw [eg23_a0_0]; rfl) _ _ hP hD hS ls (lv_sub hl [2, 3, 4, 1, 0] rfl)
    exact lp23 _ 0 0 0 z (Nat.lt_succ_self _) (by omega) (by rfl) (by rfl) (by rfl) _ _ hP hD hS ls (lv_sub hl [3, 4, 2, 1, 0] rfl)
  · refine lv_iconst (v := 0) hx hb dX6_next_7 (by decide) ?_
    have hw9 : ([(a0, .inr (6, [.int z, .int a]))] : va_W) = [(a0, .inr (6, [.int (ftNz a z pu), .int a]))] := by rw [ftNz, if_pos c4]
    rw [hw9] at hP hD
    exact W.iret (v := 0) hx hb hr (fun t ht hW => ⟨⟨0, (), rfl, (by show (0 : Int32) = ftNx a z pu; exact (if_pos c4).symm), by rw [ht]; exact hP, by rw [hAe]; exact hD⟩, by rw [hAe]; exact hS.F ht⟩) hS.2.2 dX6_next_8
end
section
/-! echoes: reflections, ghosts in order -/
/-- the reflections of the first i parts: how many, where, how high -/
def ftFl (kf pf rf p0 h0 : Nat → Int32) : Nat → Nat × (Nat → Int32) × (Nat → Int32)
  | 0 => (0, p0, h0)
  | i + 1 => if kf i = 1 then ((ftFl kf pf rf p0 h0 i).1 + 1, upd (ftFl kf pf rf p0 h0 i).2.1 (ftFl kf pf rf p0 h0 i).1 (pf i), upd (ftFl kf pf rf p0 h0 i).2.2 (ftFl kf pf rf p0 h0 i).1 (rf i)) else ftFl kf pf rf p0 h0 i
/-- with the end's -/
def ftFlE (len en : Int32) (kf pf rf p0 h0 : Nat → Int32) (n : Nat) : Nat × (Nat → Int32) × (Nat → Int32) := if 0 < en then ((ftFl kf pf rf p0 h0 n).1 + 1, upd (ftFl kf pf rf p0 h0 n).2.1 (ftFl kf pf rf p0 h0 n).1 len, upd (ftFl kf pf rf p0 h0 n).2.2 (ftFl kf pf rf p0 h0 n).1 en) else ftFl kf pf rf p0 h0 n
theorem ftFl_le (kf pf rf p0 h0 : Nat → Int32) (i : Nat) : (ftFl kf pf rf p0 h0 i).1 ≤ i := by
  induction i with
  | zero => exact Nat.le_refl 0
  | succ i ih =>
    unfold ftFl; split
    · show (ftFl kf pf rf p0 h0 i).1 + 1 ≤ i + 1; omega
    · omega
theorem ftFlE_le (len en : Int32) (kf pf rf p0 h0 : Nat → Int32) (n : Nat) : (ftFlE len en kf pf rf p0 h0 n).1 ≤ n + 1 := by
  have h := ftFl_le kf pf rf p0 h0 n
  unfold ftFlE; split
  · show (ftFl kf pf rf p0 h0 n).1 + 1 ≤ n + 1; omega
  · omega
def ftGhPl (f1 f2 : Nat → Int32) (k : Nat) : Int32 := 2 * f2 k - f1 k
/-- where a ghost at x comes among g others -/
def ftDown (f1 f2 : Nat → Int32) (x : Int32) : Nat → Nat
  | 0 => 0
  | g + 1 => if x < ftGhPl f1 f2 g then ftDown f1 f2 x g else g + 1
theorem ftDown_le (f1 f2 : Nat → Int32) (x : Int32) (g : Nat) : ftDown f1 f2 x g ≤ g := by
  induction g with
  | zero => exact Nat.le_refl 0
  | succ g ih => unfold ftDown; split <;> omega
theorem ftDown_gt {f1 f2 : Nat → Int32} {x : Int32} {k : Nat} (hk : 0 < k) (h : x < ftGhPl f1 f2 (k - 1)) : ftDown f1 f2 x k = ftDown f1 f2 x (k - 1) := by
  obtain ⟨j, rfl⟩ : ∃ j, k = j + 1 := ⟨k - 1, by omega⟩
  exact if_pos h
theorem ftDown_ge {f1 f2 : Nat → Int32} {x : Int32} {k : Nat} (hk : 0 < k) (h : ¬ x < ftGhPl f1 f2 (k - 1)) : ftDown f1 f2 x k = k := by
  obtain ⟨j, rfl⟩ : ∃ j, k = j + 1 := ⟨k - 1, by omega⟩
  exact if_neg h
abbrev ftGs : Type := Nat × (Nat → Int32) × (Nat → Int32) × (Nat → Int32)
def ftGhIns (q : ftGs) (a b h : Int32) : ftGs := (q.1 + 1, ftIns q.2.1 q.1 (ftDown q.2.1 q.2.2.1 (2 * b - a) q.1) a, ftIns q.2.2.1 q.1 (ftDown q.2.1 q.2.2.1 (2 * b - a) q.1) b, ftIns q.2.2.2 q.1 (ftDown q.2.1 q.2.2.1 (2 * b - a) q.1) h)
def ftGhH (hs : Nat → Int32) (gl : Int32) (i j : Nat) : Int32 := (hs i + hs j) / 2 - gl
def ftGhStep (ps hs : Nat → Int32) (gl : Int32) (i j : Nat) (q : ftGs) : ftGs := if 0 < ftGhH hs gl i j then ftGhIns q (ps i) (ps j) (ftGhH hs gl i j) else q
def ftGhIn (ps hs : Nat → Int32) (gl : Int32) (i : Nat) (q : ftGs) : Nat → ftGs
  | 0 => q
  | d + 1 => ftGhStep ps hs gl i (i + 1 + d) (ftGhIn ps hs gl i q d)
def ftGhOut (ps hs : Nat → Int32) (gl : Int32) (r : Nat) (q : ftGs) : Nat → ftGs
  | 0 => q
  | i + 1 => ftGhIn ps hs gl i (ftGhOut ps hs gl r q i) (r - (i + 1))
def ftPairs (r : Nat) : Nat → Nat
  | 0 => 0
  | i + 1 => ftPairs r i + (r - (i + 1))
theorem ftPairs_le : ∀ r, r < 12 → ∀ i, i < r → ftPairs r i + (r - (i + 1)) ≤ 55 := by decide
theorem ftPairs_le2 : ∀ r, r < 12 → ∀ i, i < 12 → ftPairs r i ≤ 55 := by decide
theorem ftGhStep_le (ps hs : Nat → Int32) (gl : Int32) (i j : Nat) (q : ftGs) : (ftGhStep ps hs gl i j q).1 ≤ q.1 + 1 := by
  unfold ftGhStep; split
  · exact Nat.le_refl _
  · omega
theorem ftGhIn_le (ps hs : Nat → Int32) (gl : Int32) (i : Nat) (q : ftGs) (d : Nat) : (ftGhIn ps hs gl i q d).1 ≤ q.1 + d := by
  induction d with
  | zero => exact Nat.le_refl _
  | succ d ih => have := ftGhStep_le ps hs gl i (i + 1 + d) (ftGhIn ps hs gl i q d); show (ftGhStep ps hs gl i (i + 1 + d) (ftGhIn ps hs gl i q d)).1 ≤ _; omega
theorem ftGhOut_le (ps hs : Nat → Int32) (gl : Int32) (r : Nat) (q : ftGs) (hq : q.1 = 0) (i : Nat) : (ftGhOut ps hs gl r q i).1 ≤ ftPairs r i := by
  induction i with
  | zero => show q.1 ≤ 0; omega
  | succ i ih =>
    have := ftGhIn_le ps hs gl i (ftGhOut ps hs gl r q i) (r - (i + 1))
    show (ftGhIn ps hs gl i (ftGhOut ps hs gl r q i) (r - (i + 1))).1 ≤ ftPairs r i + (r - (i + 1))
    omega
def ftGhs (R : Nat × (Nat → Int32) × (Nat → Int32)) (gl : Int32) (f1 f2 f3 : Nat → Int32) : ftGs := ftGhOut R.2.1 R.2.2 gl R.1 (0, f1, f2, f3) R.1
theorem ftGh_room {a b r i j : Nat} (h1 : a ≤ ftPairs r i) (h2 : b ≤ a + (j - (i + 1))) (h3 : i + 1 ≤ j) (h4 : j ≤ r) (h5 : r < 12) : b < 55 ∨ r ≤ j := by
  rcases Nat.lt_or_ge j r with q | q
  · have := ftPairs_le r h5 i (by omega)
    exact Or.inl (by omega)
  · exact Or.inr q
set_option maxHeartbeats 4000000 in
set_option maxRecDepth 100000 in
theorem c_X1_ghostPlace (l : Launch) (D : va_G) (cI cS : ClassId) (a0 ap ah af as ag : Nat) (r g : Nat) (f1 f2 : Nat → Int32) (k : Nat) (hk : k < 55) : Met l yX1_ghostPlace wsX1_ghostPlace ({ frames := 1, cells := 0, slots := 0, locals := 21 }) (ftRO D cI cS [.ref a0, .int (nI k)] [(a0, .inr (1, [.ref ap, .ref ah, .int (nI r), .ref af, .ref as, .ref ag, .int (nI g)])), (af, .inl (cI, 55, .inl f1)), (as, .inl (cI, 55, .inl f2))]) (vp_Si (fun o9 => o9 = ftGhPl f1 f2 k)) 0 0 (fun _ => False) := by
  refine Met.ofW (cc := cX1_ghostPlace) (maxL := 2) (ret := (some .int)) (by decide) rfl ?_
  intro p e s m args below meth c s₁ B hml hv
  obtain ⟨rfl, hP, hKK⟩ := hv
  have hK := hKK.1
  have hx := B.exec
  have hb := B.bytes
  have hr := B.returns
  have hts := atoms_spec (ws := wsX1_ghostPlace) B.pre
  have hown : s.vm.findClass RX1 = some m.cls := findClass_of_methodNamed B.named
  have hlocks := B.notSynchronized
  have hP : va_P D vwCl [(a0, .inr (1, [.ref ap, .ref ah, .int (nI r), .ref af, .ref as, .ref ag, .int (nI g)])), (af, .inl (cI, 55, .inl f1)), (as, .inl (cI, 55, .inl f2))] s.heap := hP
  have hl := lv_entry ([.ref a0, .int (nI k)]) (n := 2) (Nat.le_of_ble_eq_true rfl)
  rw [lg_entry_eq]
  generalize (lg_sl ([.ref a0, .int (nI k)]) ++ List.replicate (2 - (lg_sl ([.ref a0, .int (nI k)])).length) Slot.unset).toArray = ls at hl ⊢
  have hl : lv_has ls 2 [(0, .ref a0), (1, .int (nI k))] := hl
  refine lv_iconst (v := 2) hx hb dX1_ghostPlace_0 (by decide) ?_
  refine lv_aload_n hx hb dX1_ghostPlace_1 rfl (lv_at hl 0 rfl) ?_
  refine va_get (D := D) (ci := 1) (v := .ref as) (C := RX1) (T := TX1) (N := 7) hx hb hts (by decide +kernel) hown hK hP 0 rfl rfl 4 (by decide) (hts (.fieldLink RX1 21 "FiberTrace$Echoes" "seconds" "[I") (by decide +kernel)) (fun _ h9 => h9) rfl dX1_ghostPlace_2 ?_
  refine lv_iload_n hx hb dX1_ghostPlace_5 rfl (lv_at hl 1 rfl) ?_
  refine ft_csi (r := ftAt 55 f2 (nI k)) (va_runSN (As := [.ref as, .int (nI k)]) (rest := [.int 2]) ⟨hx, hb, hml, hown, hts⟩ (c_X10_at l D cI cS as 55 f2 (nI k) (by first | assumption | omega)) ⟨va_cnB 2 hts gX1_ghostPlace_X10_at_n38 rfl rfl rfl (hKK.2 _ (List.mem_of_getElem? (i := 14) rfl)) (hts (.initialized RX10) (by decide +kernel)) (by decide +kernel) ⟨Nat.le_of_ble_eq_true rfl, Nat.le_of_ble_eq_true rfl⟩, hts (.static yX10_at) (by decide +kernel), trivial⟩ (ft_preRO hP hKK [2] rfl) rfl rfl hl.1 rfl (lv_room (Nat.le_of_ble_eq_true rfl)) dX1_ghostPlace_6 ⟨Nat.le_of_ble_eq_true rfl, Nat.le_of_ble_eq_true rfl⟩) ?_
  refine ft_top (y := f2 k) (ftAt_N (by omega) (by omega)) ?_
  refine lv_imul hx hb dX1_ghostPlace_9 ?_
  refine lv_aload_n hx hb dX1_ghostPlace_10 rfl (lv_at hl 0 rfl) ?_
  refine va_get (D := D) (ci := 1) (v := .ref af) (C := RX1) (T := TX1) (N := 7) hx hb hts (by decide +kernel) hown hK hP 0 rfl rfl 3 (by decide) (hts (.fieldLink RX1 18 "FiberTrace$Echoes" "firsts" "[I") (by decide +kernel)) (fun _ h9 => h9) rfl dX1_ghostPlace_11 ?_
  refine lv_iload_n hx hb dX1_ghostPlace_14 rfl (lv_at hl 1 rfl) ?_
  refine ft_csi (r := ftAt 55 f1 (nI k)) (va_runSN (As := [.ref af, .int (nI k)]) (rest := [.int (2 * (f2 k))]) ⟨hx, hb, hml, hown, hts⟩ (c_X10_at l D cI cS af 55 f1 (nI k) (by first | assumption | omega)) ⟨va_cnB 2 hts gX1_ghostPlace_X10_at_n38 rfl rfl rfl (hKK.2 _ (List.mem_of_getElem? (i := 14) rfl)) (hts (.initialized RX10) (by decide +kernel)) (by decide +kernel) ⟨Nat.le_of_ble_eq_true rfl, Nat.le_of_ble_eq_true rfl⟩, hts (.static yX10_at) (by decide +kernel), trivial⟩ (ft_preRO hP hKK [1] rfl) rfl rfl hl.1 rfl (lv_room (Nat.le_of_ble_eq_true rfl)) dX1_ghostPlace_15 ⟨Nat.le_of_ble_eq_true rfl, Nat.le_of_ble_eq_true rfl⟩) ?_
  refine ft_top (y := f1 k) (ftAt_N (by omega) (by omega)) ?_
  refine lv_isub hx hb dX1_ghostPlace_18 ?_
  exact W.iret (v := (2 * (f2 k)) - (f1 k)) hx hb hr (fun t ht hW => ⟨(2 * (f2 k)) - (f1 k), rfl, rfl, ht⟩) (fun _ h9 => absurd h9 List.not_mem_nil) dX1_ghostPlace_19
set_option maxHeartbeats 4000000 in
set_option maxRecDepth 100000 in
theorem c_X1_addReflection (l : Launch) (D : va_G) (cI cS : ClassId) (sz : Nat) (a0 ap ah af as ag : Nat) (r g : Nat) (pe he : Nat → Int32) (x y : Int32) (hr0 : r < 11) : Met l yX1_addReflection wsX1_addReflection ({ frames := 1, cells := 0, slots := 0, locals := 22 }) (ftRW D cI cS [.ref a0, .int x, .int y] [(a0, .inr (1, [.ref ap, .ref ah, .int (nI r), .ref af, .ref as, .ref ag, .int (nI g)])), (ap, .inl (cI, 11, .inl pe)), (ah, .inl (cI, 11, .inl he))] sz) (ftQv D [(a0, .inr (1, [.ref ap, .ref ah, .int (nI r), .ref af, .ref as, .ref ag, .int (nI g)])), (ap, .inl (cI, 11, .inl pe)), (ah, .inl (cI, 11, .inl he))] [(a0, .inr (1, [.ref ap, .ref ah, .int (nI (r + 1)), .ref af, .ref as, .ref ag, .int (nI g)])), (ap, .inl (cI, 11, .inl (upd pe r x))), (ah, .inl (cI, 11, .inl (upd he r y)))] sz) 0 0 (va_A [(a0, .inr (1, [.ref ap, .ref ah, .int (nI r), .ref af, .ref as, .ref ag, .int (nI g)])), (ap, .inl (cI, 11, .inl pe)), (ah, .inl (cI, 11, .inl he))] sz) := by
  refine Met.ofW (cc := cX1_addReflection) (maxL := 3) (ret := none) (by decide) rfl ?_
  intro p e s m args below meth c s₁ B hml hv
  obtain ⟨rfl, hsz, hP, hKK, hD0⟩ := hv
  have hK := hKK.1
  have hx := B.exec
  have hb := B.bytes
  have hr := B.returns
  have hts := atoms_spec (ws := wsX1_addReflection) B.pre
  have hown : s.vm.findClass RX1 = some m.cls := findClass_of_methodNamed B.named
  have hlocks := B.notSynchronized
  subst hsz
  have hD := hD0.self (sz := s.heap.size)
  generalize hAe : va_A [(a0, .inr (1, [.ref ap, .ref ah, .int (nI r), .ref af, .ref as, .ref ag, .int (nI g)])), (ap, .inl (cI, 11, .inl pe)), (ah, .inl (cI, 11, .inl he))] s.heap.size = A at hD ⊢
  have hA : ∀ q : Nat, s.heap.size ≤ q → A q := fun q h => by rw [← hAe]; exact Or.inr h
  have hS : va_S A s.heap s.heap [] := va_S.rf
  have hD : va_D A [(a0, .inr (1, [.ref ap, .ref ah, .int (nI r), .ref af, .ref as, .ref ag, .int (nI g)])), (ap, .inl (cI, 11, .inl pe)), (ah, .inl (cI, 11, .inl he))] := hD
  have hP : va_P D vwCl [(a0, .inr (1, [.ref ap, .ref ah, .int (nI r), .ref af, .ref as, .ref ag, .int (nI g)])), (ap, .inl (cI, 11, .inl pe)), (ah, .inl (cI, 11, .inl he))] s.heap := hP
  have hl := lv_entry ([.ref a0, .int x, .int y]) (n := 3) (Nat.le_of_ble_eq_true rfl)
  rw [lg_entry_eq]
  generalize (lg_sl ([.ref a0, .int x, .int y]) ++ List.replicate (3 - (lg_sl ([.ref a0, .int x, .int y])).length) Slot.unset).toArray = ls at hl ⊢
  have hl : lv_has ls 3 [(0, .ref a0), (1, .int x), (2, .int y)] := hl
  refine lv_aload_n hx hb dX1_addReflection_0 rfl (lv_at hl 0 rfl) ?_
  refine va_get (D := D) (ci := 1) (v := .ref ap) (C := RX1) (T := TX1) (N := 7) hx hb hts (by decide +kernel) hown hK hP 0 rfl rfl 0 (by decide) (hts (.fieldLink RX1 9 "FiberTrace$Echoes" "places" "[I") (by decide +kernel)) (fun _ h9 => h9) rfl dX1_addReflection_1 ?_
  refine lv_aload_n hx hb dX1_addReflection_4 rfl (lv_at hl 0 rfl) ?_
  refine va_get (D := D) (ci := 1) (v := .int (nI r)) (C := RX1) (T := TX1) (N := 7) hx hb hts (by decide +kernel) hown hK hP 0 rfl rfl 2 (by decide) (hts (.fieldLink RX1 35 "FiberTrace$Echoes" "reflections" "I") (by decide +kernel)) (fun _ h9 => h9) rfl dX1_addReflection_5 ?_
  refine lv_iload_n hx hb dX1_addReflection_8 rfl (lv_at hl 1 rfl) ?_
  refine ft_cv (wc := [(ap, .inl (cI, 11, .inl pe))]) (wr := [(a0, .inr (1, [.ref ap, .ref ah, .int (nI r), .ref af, .ref as, .ref ag, .int (nI g)])), (ah, .inl (cI, 11, .inl he))]) (w1 := [(ap, .inl (cI, 11, .inl (ftPut 11 pe (nI r) x)))]) (ws1 := [(a0, .inr (1, [.ref ap, .ref ah, .int (nI r), .ref af, .ref as, .ref ag, .int (nI g)])), (ap, .inl (cI, 11, .inl (ftPut 11 pe (nI r) x))), (ah, .inl (cI, 11, .inl he))]) (va_runSN (As := [.ref ap, .int (nI r), .int x]) (rest := []) ⟨hx, hb, hml, hown, hts⟩ (c_X10_put l D cI cS s.heap.size ap 11 pe (nI r) x (by first | assumption | omega)) ⟨va_cnB 3 hts gX1_addReflection_X10_put_n67 rfl rfl rfl (hKK.2 _ (List.mem_of_getElem? (i := 15) rfl)) (hts (.initialized RX10) (by decide +kernel)) (by decide +kernel) ⟨Nat.le_of_ble_eq_true rfl, Nat.le_of_ble_eq_true rfl⟩, hts (.static yX10_put) (by decide +kernel), trivial⟩ (ft_preRW hP hD hKK [1] rfl rfl rfl) rfl rfl hl.1 rfl (lv_room (Nat.le_of_ble_eq_true rfl)) dX1_addReflection_9 ⟨Nat.le_of_ble_eq_true rfl, Nat.le_of_ble_eq_true rfl⟩) hP hD hS hA [1] [0, 2] [0, 2, 1] rfl rfl (by decide) (by decide) (by decide) rfl rfl (fun H locs hP hD hS => ?_)
  rw [ftPut_N (k := r) (by omega) (by omega)] at hP hD
  have hP : va_P D vwCl [(a0, .inr (1, [.ref ap, .ref ah, .int (nI r), .ref af, .ref as, .ref ag, .int (nI g)])), (ap, .inl (cI, 11, .inl (upd pe r x))), (ah, .inl (cI, 11, .inl he))] H := hP
  have hD : va_D A [(a0, .inr (1, [.ref ap, .ref ah, .int (nI r), .ref af, .ref as, .ref ag, .int (nI g)])), (ap, .inl (cI, 11, .inl (upd pe r x))), (ah, .inl (cI, 11, .inl he))] := hD
  refine lv_aload_n hx hb dX1_addReflection_12 rfl (lv_at hl 0 rfl) ?_
  refine va_get (D := D) (ci := 1) (v := .ref ah) (C := RX1) (T := TX1) (N := 7) hx hb hts (by decide +kernel) hown hK hP 0 rfl rfl 1 (by decide) (hts (.fieldLink RX1 15 "FiberTrace$Echoes" "heights" "[I") (by decide +kernel)) (fun _ h9 => h9) rfl dX1_addReflection_13 ?_
  refine lv_aload_n hx hb dX1_addReflection_16 rfl (lv_at hl 0 rfl) ?_
  refine va_get (D := D) (ci := 1) (v := .int (nI r)) (C := RX1) (T := TX1) (N := 7) hx hb hts (by decide +kernel) hown hK hP 0 rfl rfl 2 (by decide) (hts (.fieldLink RX1 35 "FiberTrace$Echoes" "reflections" "I") (by decide +kernel)) (fun _ h9 => h9) rfl dX1_addReflection_17 ?_
  refine lv_iload_n hx hb dX1_addReflection_20 rfl (lv_at hl 2 rfl) ?_
  refine ft_cv (wc := [(ah, .inl (cI, 11, .inl he))]) (wr := [(a0, .inr (1, [.ref ap, .ref ah, .int (nI r), .ref af, .ref as, .ref ag, .int (nI g)])), (ap, .inl (cI, 11, .inl (upd pe r x)))]) (w1 := [(ah, .inl (cI, 11, .inl (ftPut 11 he (nI r) y)))]) (ws1 := [(a0, .inr (1, [.ref ap, .ref ah, .int (nI r), .ref af, .ref as, .ref ag, .int (nI g)])), (ap, .inl (cI, 11, .inl (upd pe r x))), (ah, .inl (cI, 11, .inl (ftPut 11 he (nI r) y)))]) (va_runSN (As := [.ref ah, .int (nI r), .int y]) (rest := []) ⟨hx, hb, hml, hown, hts⟩ (c_X10_put l D cI cS H.size ah 11 he (nI r) y (by first | assumption | omega)) ⟨va_cnB 3 hts gX1_addReflection_X10_put_n67 rfl rfl rfl (hKK.2 _ (List.mem_of_getElem? (i := 15) rfl)) (hts (.initialized RX10) (by decide +kernel)) (by decide +kernel) ⟨Nat.le_of_ble_eq_true rfl, Nat.le_of_ble_eq_true rfl⟩, hts (.static yX10_put) (by decide +kernel), trivial⟩ (ft_preRW hP hD hKK [2] rfl rfl rfl) rfl rfl hl.1 rfl (lv_room (Nat.le_of_ble_eq_true rfl)) dX1_addReflection_21 ⟨Nat.le_of_ble_eq_true rfl, Nat.le_of_ble_eq_true rfl⟩) hP hD hS hA [2] [0, 1] [0, 1, 2] rfl rfl (by decide) (by decide) (by decide) rfl rfl (fun H locs hP hD hS => ?_)
  rw [ftPut_N (k := r) (by omega) (by omega)] at hP hD
  have hP : va_P D vwCl [(a0, .inr (1, [.ref ap, .ref ah, .int (nI r), .ref af, .ref as, .ref ag, .int (nI g)])), (ap, .inl (cI, 11, .inl (upd pe r x))), (ah, .inl (cI, 11, .inl (upd he r y)))] H := hP
  have hD : va_D A [(a0, .inr (1, [.ref ap, .ref ah, .int (nI r), .ref af, .ref as, .ref ag, .int (nI g)])), (ap, .inl (cI, 11, .inl (upd pe r x))), (ah, .inl (cI, 11, .inl (upd he r y)))] := hD
  refine lv_aload_n hx hb dX1_addReflection_24 rfl (lv_at hl 0 rfl) ?_
  refine lv_dup hx hb dX1_addReflection_25 rfl ?_
  refine va_get (D := D) (ci := 1) (v := .int (nI r)) (C := RX1) (T := TX1) (N := 7) hx hb hts (by decide +kernel) hown hK hP 0 rfl rfl 2 (by decide) (hts (.fieldLink RX1 35 "FiberTrace$Echoes" "reflections" "I") (by decide +kernel)) (fun _ h9 => h9) rfl dX1_addReflection_26 ?_
  refine lv_iconst (v := 1) hx hb dX1_addReflection_29 (by decide) ?_
  refine lv_iadd hx hb dX1_addReflection_30 ?_
  refine ft_top (y := nI (r + 1)) (ft_addN r 1) ?_
  refine va_put (D := D) (ci := 1) (v := .int (nI (r + 1))) (ty := .int) (C := RX1) (T := TX1) (N := 7) hx hb hts (by decide +kernel) tyX1 tyX1_ok nmX1 hown hK hP hD hS 0 rfl rfl 2 (by decide) (hts (.fieldLink RX1 35 "FiberTrace$Echoes" "reflections" "I") (by decide +kernel)) (fun _ h9 => h9) rfl (by decide +kernel) rfl rfl (Nat.le_of_ble_eq_true rfl) dX1_addReflection_31 (fun H locs hP hD hS => ?_)
  have hP : va_P D vwCl [(a0, .inr (1, [.ref ap, .ref ah, .int (nI (r + 1)), .ref af, .ref as, .ref ag, .int (nI g)])), (ap, .inl (cI, 11, .inl (upd pe r x))), (ah, .inl (cI, 11, .inl (upd he r y)))] H := hP
  have hD : va_D A [(a0, .inr (1, [.ref ap, .ref ah, .int (nI (r + 1)), .ref af, .ref as, .ref ag, .int (nI g)])), (ap, .inl (cI, 11, .inl (upd pe r x))), (ah, .inl (cI, 11, .inl (upd he r y)))] := hD
  have hw9 : ([(a0, .inr (1, [.ref ap, .ref ah, .int (nI (r + 1)), .ref af, .ref as, .ref ag, .int (nI g)])), (ap, .inl (cI, 11, .inl (upd pe r x))), (ah, .inl (cI, 11, .inl (upd he r y)))] : va_W) = [(a0, .inr (1, [.ref ap, .ref ah, .int (nI (r + 1)), .ref af, .ref as, .ref ag, .int (nI g)])), (ap, .inl (cI, 11, .inl (upd pe r x))), (ah, .inl (cI, 11, .inl (upd he r y)))] := rfl
  rw [hw9] at hP hD
  exact W.vret hx hb hr (fun t ht hW => ⟨⟨(), rfl, trivial, by rw [ht]; exact hP, by rw [hAe]; exact hD⟩, by rw [hAe]; exact hS.F ht⟩) hS.2.2 dX1_addReflection_34
set_option maxHeartbeats 4000000 in
set_option maxRecDepth 100000 in
theorem c_X1_findReflections (l : Launch) (D : va_G) (cI cS : ClassId) (sz : Nat) (a0 ap ah af as ag : Nat) (r g : Nat) (pe he : Nat → Int32) (b0 : Nat) (len att en : Int32) (n bk bp bl br : Nat) (kf pf rf : Nat → Int32) (hn : n ≤ 10) : Met l yX1_findReflections wsX1_findReflections ({ frames := 2, cells := 0, slots := 0, locals := 44 }) (ftRW D cI cS [.ref a0, .ref b0] [(a0, .inr (1, [.ref ap, .ref ah, .int (nI r), .ref af, .ref as, .ref ag, .int (nI g)])), (ap, .inl (cI, 11, .inl pe)), (ah, .inl (cI, 11, .inl he)), (b0, .inr (4, [.int len, .int att, .int en, .int (nI n), .ref bk, .ref bp, .ref bl, .ref br])), (bk, .inl (cI, 10, .inl kf)), (bp, .inl (cI, 10, .inl pf)), (br, .inl (cI, 10, .inl rf))] sz) (ftQv D [(a0, .inr (1, [.ref ap, .ref ah, .int (nI r), .ref af, .ref as, .ref ag, .int (nI g)])), (ap, .inl (cI, 11, .inl pe)), (ah, .inl (cI, 11, .inl he)), (b0, .inr (4, [.int len, .int att, .int en, .int (nI n), .ref bk, .ref bp, .ref bl, .ref br])), (bk, .inl (cI, 10, .inl kf)), (bp, .inl (cI, 10, .inl pf)), (br, .inl (cI, 10, .inl rf))] [(a0, .inr (1, [.ref ap, .ref ah, .int (nI (ftFlE len en kf pf rf pe he n).1), .ref af, .ref as, .ref ag, .int (nI g)])), (ap, .inl (cI, 11, .inl ((ftFlE len en kf pf rf pe he n).2.1))), (ah, .inl (cI, 11, .inl ((ftFlE len en kf pf rf pe he n).2.2))), (b0, .inr (4, [.int len, .int att, .int en, .int (nI n), .ref bk, .ref bp, .ref bl, .ref br])), (bk, .inl (cI, 10, .inl kf)), (bp, .inl (cI, 10, .inl pf)), (br, .inl (cI, 10, .inl rf))] sz) 0 0 (va_A [(a0, .inr (1, [.ref ap, .ref ah, .int (nI r), .ref af, .ref as, .ref ag, .int (nI g)])), (ap, .inl (cI, 11, .inl pe)), (ah, .inl (cI, 11, .inl he)), (b0, .inr (4, [.int len, .int att, .int en, .int (nI n), .ref bk, .ref bp, .ref bl, .ref br])), (bk, .inl (cI, 10, .inl kf)), (bp, .inl (cI, 10, .inl pf)), (br, .inl (cI, 10, .inl rf))] sz) := by
  refine Met.ofW (cc := cX1_findReflections) (maxL := 3) (ret := none) (by decide) rfl ?_
  intro p e s m args below meth c s₁ B hml hv
  obtain ⟨rfl, hsz, hP, hKK, hD0⟩ := hv
  have hK := hKK.1
  have hx := B.exec
  have hb := B.bytes
  have hr := B.returns
  have hts := atoms_spec (ws := wsX1_findReflections) B.pre
  have hown : s.vm.findClass RX1 = some m.cls := findClass_of_methodNamed B.named
  have hlocks := B.notSynchronized
  subst hsz
  have hD := hD0.self (sz := s.heap.size)
  generalize hAe : va_A [(a0, .inr (1, [.ref ap, .ref ah, .int (nI r), .ref af, .ref as, .ref ag, .int (nI g)])), (ap, .inl (cI, 11, .inl pe)), (ah, .inl (cI, 11, .inl he)), (b0, .inr (4, [.int len, .int att, .int en, .int (nI n), .ref bk, .ref bp, .ref bl, .ref br])), (bk, .inl (cI, 10, .inl kf)), (bp, .inl (cI, 10, .inl pf)), (br, .inl (cI, 10, .inl rf))] s.heap.size = A at hD ⊢
  have hA : ∀ q : Nat, s.heap.size ≤ q → A q := fun q h => by rw [← hAe]; exact Or.inr h
  have hS : va_S A s.heap s.heap [] := va_S.rf
  have hD : va_D A [(a0, .inr (1, [.ref ap, .ref ah, .int (nI r), .ref af, .ref as, .ref ag, .int (nI g)])), (ap, .inl (cI, 11, .inl pe)), (ah, .inl (cI, 11, .inl he)), (b0, .inr (4, [.int len, .int att, .int en, .int (nI n), .ref bk, .ref bp, .ref bl, .ref br])), (bk, .inl (cI, 10, .inl kf)), (bp, .inl (cI, 10, .inl pf)), (br, .inl (cI, 10, .inl rf))] := hD
  have hP : va_P D vwCl [(a0, .inr (1, [.ref ap, .ref ah, .int (nI r), .ref af, .ref as, .ref ag, .int (nI g)])), (ap, .inl (cI, 11, .inl pe)), (ah, .inl (cI, 11, .inl he)), (b0, .inr (4, [.int len, .int att, .int en, .int (nI n), .ref bk, .ref bp, .ref bl, .ref br])), (bk, .inl (cI, 10, .inl kf)), (bp, .inl (cI, 10, .inl pf)), (br, .inl (cI, 10, .inl rf))] s.heap := hP
  have hl := lv_entry ([.ref a0, .ref b0]) (n := 3) (Nat.le_of_ble_eq_true rfl)
  rw [lg_entry_eq]
  generalize (lg_sl ([.ref a0, .ref b0]) ++ List.replicate (3 - (lg_sl ([.ref a0, .ref b0])).length) Slot.unset).toArray = ls at hl ⊢
  have hl : lv_has ls 3 [(0, .ref a0), (1, .ref b0)] := hl
  refine lv_aload_n hx hb dX1_findReflections_0 rfl (lv_at hl 0 rfl) ?_
  refine lv_iconst (v := 0) hx hb dX1_findReflections_1 (by decide) ?_
  refine va_put (D := D) (ci := 1) (v := .int 0) (ty := .int) (C := RX1) (T := TX1) (N := 7) hx hb hts (by decide +kernel) tyX1 tyX1_ok nmX1 hown hK hP hD hS 0 rfl rfl 2 (by decide) (hts (.fieldLink RX1 35 "FiberTrace$Echoes" "reflections" "I") (by decide +kernel)) (fun _ h9 => h9) rfl (by decide +kernel) rfl rfl (Nat.le_of_ble_eq_true rfl) dX1_findReflections_2 (fun H locs hP hD hS => ?_)
  have hP : va_P D vwCl [(a0, .inr (1, [.ref ap, .ref ah, .int 0, .ref af, .ref as, .ref ag, .int (nI g)])), (ap, .inl (cI, 11, .inl pe)), (ah, .inl (cI, 11, .inl he)), (b0, .inr (4, [.int len, .int att, .int en, .int (nI n), .ref bk, .ref bp, .ref bl, .ref br])), (bk, .inl (cI, 10, .inl kf)), (bp, .inl (cI, 10, .inl pf)), (br, .inl (cI, 10, .inl rf))] H := hP
  have hD : va_D A [(a0, .inr (1, [.ref ap, .ref ah, .int 0, .ref af, .ref as, .ref ag, .int (nI g)])), (ap, .inl (cI, 11, .inl pe)), (ah, .inl (cI, 11, .inl he)), (b0, .inr (4, [.int len, .int att, .int en, .int (nI n), .ref bk, .ref bp, .ref bl, .ref br])), (bk, .inl (cI, 10, .inl kf)), (bp, .inl (cI, 10, .inl pf)), (br, .inl (cI, 10, .inl rf))] := hD
  refine lv_iconst (v := 0) hx hb dX1_findReflections_5 (by decide) ?_
  refine lv_istore_n (lv' := [(2, .int 0), (0, .ref a0), (1, .ref b0)]) hx hb dX1_findReflections_6 rfl hl (by decide) rfl (fun ls hl => ?_)
  have lp7 : ∀ (n7 : Nat) (i q : Nat) (x7_2 : Int32) (g7_a0_2 : Int32) (g7_ap : Nat → Int32) (g7_ah : Nat → Int32), n - i < n7 → (i ≤ n) → (q = (ftFl kf pf rf pe he i).1) → x7_2 = nI i → g7_a0_2 = nI q → g7_ap = (ftFl kf pf rf pe he i).2.1 → g7_ah = (ftFl kf pf rf pe he i).2.2 → ∀ (H : Heap) (locs : List Loc), va_P D vwCl [(a0, .inr (1, [.ref ap, .ref ah, .int g7_a0_2, .ref af, .ref as, .ref ag, .int (nI g)])), (ap, .inl (cI, 11, .inl g7_ap)), (ah, .inl (cI, 11, .inl g7_ah)), (b0, .inr (4, [.int len, .int att, .int en, .int (nI n), .ref bk, .ref bp, .ref bl, .ref br])), (bk, .inl (cI, 10, .inl kf)), (bp, .inl (cI, 10, .inl pf)), (br, .inl (cI, 10, .inl rf))] H → va_D A [(a0, .inr (1, [.ref ap, .ref ah, .int g7_a0_2, .ref af, .ref as, .ref ag, .int (nI g)])), (ap, .inl (cI, 11, .inl g7_ap)), (ah, .inl (cI, 11, .inl g7_ah)), (b0, .inr (4, [.int len, .int att, .int en, .int (nI n), .ref bk, .ref bp, .ref bl, .ref br])), (bk, .inl (cI, 10, .inl kf)), (bp, .inl (cI, 10, .inl pf)), (br, .inl (cI, 10, .inl rf))] → va_S A s.heap H locs → ∀ ls : Array Slot, lv_has ls 3 [(0, .ref a0), (1, .ref b0), (2, .int x7_2)] → W p l e (headSpec wsX1_findReflections { frames := 2, cells := 0, slots := 0, locals := 44 }).room s m ([.ref a0, .ref b0] : List Value).toArray below meth c H locs 0 0 (MQ below (ftQv D [(a0, .inr (1, [.ref ap, .ref ah, .int (nI r), .ref af, .ref as, .ref ag, .int (nI g)])), (ap, .inl (cI, 11, .inl pe)), (ah, .inl (cI, 11, .inl he)), (b0, .inr (4, [.int len, .int att, .int en, .int (nI n), .ref bk, .ref bp, .ref bl, .ref br])), (bk, .inl (cI, 10, .inl kf)), (bp, .inl (cI, 10, .inl pf)), (br, .inl (cI, 10, .inl rf))] [(a0, .inr (1, [.ref ap, .ref ah, .int (nI (ftFlE len en kf pf rf pe he n).1), .ref af, .ref as, .ref ag, .int (nI g)])), (ap, .inl (cI, 11, .inl ((ftFlE len en kf pf rf pe he n).2.1))), (ah, .inl (cI, 11, .inl ((ftFlE len en kf pf rf pe he n).2.2))), (b0, .inr (4, [.int len, .int att, .int en, .int (nI n), .ref bk, .ref bp, .ref bl, .ref br])), (bk, .inl (cI, 10, .inl kf)), (bp, .inl (cI, 10, .inl pf)), (br, .inl (cI, 10, .inl rf))] s.heap.size) ([.ref a0, .ref b0] : List Value).toArray s 0 0 A) (F0 m 7 ls []) := by
    intro n7
    induction n7 with
    | zero =>
      intro i q x7_2 g7_a0_2 g7_ap g7_ah hm7
      exact absurd hm7 (Nat.not_lt_zero _)
    | succ n7 ih7 =>
      intro i q x7_2 g7_a0_2 g7_ap g7_ah hm7 hin hq ex7_2 eg7_a0_2 eg7_ap eg7_ah H locs hP hD hS ls hl
      subst ex7_2
      subst eg7_a0_2
      have hqi : q ≤ i := by rw [hq]; exact ftFl_le kf pf rf pe he i
      refine lv_iload_n hx hb dX1_findReflections_7 rfl (lv_at hl 2 rfl) ?_
      refine lv_aload_n hx hb dX1_findReflections_8 rfl (lv_at hl 1 rfl) ?_
      refine va_get (D := D) (ci := 4) (v := .int (nI n)) (C := RX4) (T := TX4) (N := 8) hx hb hts (by decide +kernel) hown hK hP 3 rfl rfl 3 (by decide) (hts (.fieldLink RX1 46 "FiberTrace$Link" "size" "I") (by decide +kernel)) (fun _ h9 => h9) rfl dX1_findReflections_9 ?_
      refine lv_icmp_ge (tgt := 53) hx hb dX1_findReflections_12 (by decide) (fun c12 => ?_) (fun c12 => ?_)
      · have c12n : n ≤ i := ft_leN (by omega) (by omega) c12
        refine lv_aload_n hx hb dX1_findReflections_53 rfl (lv_at hl 1 rfl) ?_
        refine va_get (D := D) (ci := 4) (v := .int en) (C := RX4) (T := TX4) (N := 8) hx hb hts (by decide +kernel) hown hK hP 3 rfl rfl 2 (by decide) (hts (.fieldLink RX1 61 "FiberTrace$Link" "end" "I") (by decide +kernel)) (fun _ h9 => h9) rfl dX1_findReflections_54 ?_
        refine lv_if_le (tgt := 72) hx hb dX1_findReflections_57 (by decide) (fun c57 => ?_) (fun c57 => ?_)
        · have hw9 : ([(a0, .inr (1, [.ref ap, .ref ah, .int (nI q), .ref af, .ref as, .ref ag, .int (nI g)])), (ap, .inl (cI, 11, .inl g7_ap)), (ah, .inl (cI, 11, .inl g7_ah)), (b0, .inr (4, [.int len, .int att, .int en, .int (nI n), .ref bk, .ref bp, .ref bl, .ref br])), (bk, .inl (cI, 10, .inl kf)), (bp, .inl (cI, 10, .inl pf)), (br, .inl (cI, 10, .inl rf))] : va_W) = [(a0, .inr (1, [.ref ap, .ref ah, .int (nI (ftFlE len en kf pf rf pe he n).1), .ref af, .ref as, .ref ag, .int (nI g)])), (ap, .inl (cI, 11, .inl ((ftFlE len en kf pf rf pe he n).2.1))), (ah, .inl (cI, 11, .inl ((ftFlE len en kf pf rf pe he n).2.2))), (b0, .inr (4, [.int len, .int att, .int en, .int (nI n), .ref bk, .ref bp, .ref bl, .ref br])), (bk, .inl (cI, 10, .inl kf)), (bp, .inl (cI, 10, .inl pf)), (br, .inl (cI, 10, .inl rf))] := by (obtain rfl : i = n := by omega); first | (rw [ftFlE, if_neg (Int32.not_lt.mpr c57), eg7_ap, eg7_ah, hq]; done) | (rw [ftFlE, if_pos (Int32.not_le.mp c57), eg7_ap, eg7_ah, hq]; done)
          rw [hw9] at hP hD
          exact W.vret hx hb hr (fun t ht hW => ⟨⟨(), rfl, trivial, by rw [ht]; exact hP, by rw [hAe]; exact hD⟩, by rw [hAe]; exact hS.F ht⟩) hS.2.2 dX1_findReflections_72
        · refine lv_aload_n hx hb dX1_findReflections_60 rfl (lv_at hl 0 rfl) ?_
          refine lv_aload_n hx hb dX1_findReflections_61 rfl (lv_at hl 1 rfl) ?_
          refine va_get (D := D) (ci := 4) (v := .int len) (C := RX4) (T := TX4) (N := 8) hx hb hts (by decide +kernel) hown hK hP 3 rfl rfl 0 (by decide) (hts (.fieldLink RX1 64 "FiberTrace$Link" "length" "I") (by decide +kernel)) (fun _ h9 => h9) rfl dX1_findReflections_62 ?_
          refine lv_aload_n hx hb dX1_findReflections_65 rfl (lv_at hl 1 rfl) ?_
          refine va_get (D := D) (ci := 4) (v := .int en) (C := RX4) (T := TX4) (N := 8) hx hb hts (by decide +kernel) hown hK hP 3 rfl rfl 2 (by decide) (hts (.fieldLink RX1 61 "FiberTrace$Link" "end" "I") (by decide +kernel)) (fun _ h9 => h9) rfl dX1_findReflections_66 ?_
          refine ft_cv (wc := [(a0, .inr (1, [.ref ap, .ref ah, .int (nI q), .ref af, .ref as, .ref ag, .int (nI g)])), (ap, .inl (cI, 11, .inl g7_ap)), (ah, .inl (cI, 11, .inl g7_ah))]) (wr := [(b0, .inr (4, [.int len, .int att, .int en, .int (nI n), .ref bk, .ref bp, .ref bl, .ref br])), (bk, .inl (cI, 10, .inl kf)), (bp, .inl (cI, 10, .inl pf)), (br, .inl (cI, 10, .inl rf))]) (w1 := [(a0, .inr (1, [.ref ap, .ref ah, .int (nI (q + 1)), .ref af, .ref as, .ref ag, .int (nI g)])), (ap, .inl (cI, 11, .inl (upd g7_ap q len))), (ah, .inl (cI, 11, .inl (upd g7_ah q en)))]) (ws1 := [(a0, .inr (1, [.ref ap, .ref ah, .int (nI (q + 1)), .ref af, .ref as, .ref ag, .int (nI g)])), (ap, .inl (cI, 11, .inl (upd g7_ap q len))), (ah, .inl (cI, 11, .inl (upd g7_ah q en))), (b0, .inr (4, [.int len, .int att, .int en, .int (nI n), .ref bk, .ref bp, .ref bl, .ref br])), (bk, .inl (cI, 10, .inl kf)), (bp, .inl (cI, 10, .inl pf)), (br, .inl (cI, 10, .inl rf))]) (va_runV (C := RX1) (As := [.int len, .int en]) (rest := []) ⟨hx, hb, hml, hown, hts⟩ (c_X1_addReflection l D cI cS H.size a0 ap ah af as ag q g g7_ap g7_ah len en (by first | assumption | omega)) (cwV 2 hts gX1_findReflections_X1_addReflection rfl rfl rfl (by decide +kernel) ⟨Nat.le_of_ble_eq_true rfl, Nat.le_of_ble_eq_true rfl⟩) (ft_preRWV (ci := 1) (q0 := 0) hP hD hKK [0, 1, 2] rfl rfl rfl rfl rfl) rfl rfl hl.1 rfl (lv_room (Nat.le_of_ble_eq_true rfl)) dX1_findReflections_69 ⟨Nat.le_of_ble_eq_true rfl, Nat.le_of_ble_eq_true rfl⟩) hP hD hS hA [0, 1, 2] [3, 4, 5, 6] [4, 5, 6, 0, 1, 2, 3] rfl rfl (by decide) (by decide) (by decide) rfl rfl (fun H locs hP hD hS => ?_)
          have hP : va_P D vwCl [(a0, .inr (1, [.ref ap, .ref ah, .int (nI (q + 1)), .ref af, .ref as, .ref ag, .int (nI g)])), (ap, .inl (cI, 11, .inl (upd g7_ap q len))), (ah, .inl (cI, 11, .inl (upd g7_ah q en))), (b0, .inr (4, [.int len, .int att, .int en, .int (nI n), .ref bk, .ref bp, .ref bl, .ref br])), (bk, .inl (cI, 10, .inl kf)), (bp, .inl (cI, 10, .inl pf)), (br, .inl (cI, 10, .inl rf))] H := hP
          have hD : va_D A [(a0, .inr (1, [.ref ap, .ref ah, .int (nI (q + 1)), .ref af, .ref as, .ref ag, .int (nI g)])), (ap, .inl (cI, 11, .inl (upd g7_ap q len))), (ah, .inl (cI, 11, .inl (upd g7_ah q en))), (b0, .inr (4, [.int len, .int att, .int en, .int (nI n), .ref bk, .ref bp, .ref bl, .ref br])), (bk, .inl (cI, 10, .inl kf)), (bp, .inl (cI, 10, .inl pf)), (br, .inl (cI, 10, .inl rf))] := hD
          have hw9 : ([(a0, .inr (1, [.ref ap, .ref ah, .int (nI (q + 1)), .ref af, .ref as, .ref ag, .int (nI g)])), (ap, .inl (cI, 11, .inl (upd g7_ap q len))), (ah, .inl (cI, 11, .inl (upd g7_ah q en))), (b0, .inr (4, [.int len, .int att, .int en, .int (nI n), .ref bk, .ref bp, .ref bl, .ref br])), (bk, .inl (cI, 10, .inl kf)), (bp, .inl (cI, 10, .inl pf)), (br, .inl (cI, 10, .inl rf))] : va_W) = [(a0, .inr (1, [.ref ap, .ref ah, .int (nI (ftFlE len en kf pf rf pe he n).1), .ref af, .ref as, .ref ag, .int (nI g)])), (ap, .inl (cI, 11, .inl ((ftFlE len en kf pf rf pe he n).2.1))), (ah, .inl (cI, 11, .inl ((ftFlE len en kf pf rf pe he n).2.2))), (b0, .inr (4, [.int len, .int att, .int en, .int (nI n), .ref bk, .ref bp, .ref bl, .ref br])), (bk, .inl (cI, 10, .inl kf)), (bp, .inl (cI, 10, .inl pf)), (br, .inl (cI, 10, .inl rf))] := by (obtain rfl : i = n := by omega); first | (rw [ftFlE, if_neg (Int32.not_lt.mpr c57), eg7_ap, eg7_ah, hq]; done) | (rw [ftFlE, if_pos (Int32.not_le.mp c57), eg7_ap, eg7_ah, hq]; done)
          rw [hw9] at hP hD
          exact W.vret hx hb hr (fun t ht hW => ⟨⟨(), rfl, trivial, by rw [ht]; exact hP, by rw [hAe]; exact hD⟩, by rw [hAe]; exact hS.F ht⟩) hS.2.2 dX1_findReflections_72
      · have c12n : i < n := ft_nleN (by omega) (by omega) c12
        refine lv_aload_n hx hb dX1_findReflections_15 rfl (lv_at hl 1 rfl) ?_
        refine va_get (D := D) (ci := 4) (v := .ref bk) (C := RX4) (T := TX4) (N := 8) hx hb hts (by decide +kernel) hown hK hP 3 rfl rfl 4 (by decide) (hts (.fieldLink RX1 51 "FiberTrace$Link" "kinds" "[I") (by decide +kernel)) (fun _ h9 => h9) rfl dX1_findReflections_16 ?_
        refine lv_iload_n hx hb dX1_findReflections_19 rfl (lv_at hl 2 rfl) ?_
        refine ft_csi (r := ftAt 10 kf (nI i)) (va_runSN (As := [.ref bk, .int (nI i)]) (rest := []) ⟨hx, hb, hml, hown, hts⟩ (c_X10_at l D cI cS bk 10 kf (nI i) (by first | assumption | omega)) ⟨va_cnB 2 hts gX1_findReflections_X10_at_n38 rfl rfl rfl (hKK.2 _ (List.mem_of_getElem? (i := 14) rfl)) (hts (.initialized RX10) (by decide +kernel)) (by decide +kernel) ⟨Nat.le_of_ble_eq_true rfl, Nat.le_of_ble_eq_true rfl⟩, hts (.static yX10_at) (by decide +kernel), trivial⟩ (ft_preRO hP hKK [4] rfl) rfl rfl hl.1 rfl (lv_room (Nat.le_of_ble_eq_true rfl)) dX1_findReflections_20 ⟨Nat.le_of_ble_eq_true rfl, Nat.le_of_ble_eq_true rfl⟩) ?_
        refine ft_top (y := kf i) (ftAt_N (by omega) (by omega)) ?_
        refine lv_iconst (v := 1) hx hb dX1_findReflections_23 (by decide) ?_
        refine lv_icmp_ne (tgt := 47) hx hb dX1_findReflections_24 (by decide) (fun c24 => ?_) (fun c24 => ?_)
        · refine lv_iinc (v := nI (i + 1)) (lv' := [(2, .int (nI (i + 1))), (0, .ref a0), (1, .ref b0)]) hx hb dX1_findReflections_47 hl (k := 2) rfl (ft_inc i) (by decide) rfl (fun ls hl => ?_)
          refine lv_goto (tgt := 7) hx hb dX1_findReflections_50 (by decide) ?_
          exact ih7 (i + 1) q (nI (i + 1)) (nI q) g7_ap g7_ah (by omega) (by omega) (by first | (rw [ftFl, if_pos c24, hq]; done) | (rw [ftFl, if_neg c24]; exact hq)) (by first | rfl | assumption) (by first | rfl | assumption) (by first | (rw [ftFl, if_pos c24, eg7_ap, hq]; done) | (rw [ftFl, if_neg c24]; exact eg7_ap)) (by first | (rw [ftFl, if_pos c24, eg7_ah, hq]; done) | (rw [ftFl, if_neg c24]; exact eg7_ah)) _ _ hP hD hS ls (lv_sub hl [1, 2, 0] rfl)
        · refine lv_aload_n hx hb dX1_findReflections_27 rfl (lv_at hl 0 rfl) ?_
          refine lv_aload_n hx hb dX1_findReflections_28 rfl (lv_at hl 1 rfl) ?_
          refine va_get (D := D) (ci := 4) (v := .ref bp) (C := RX4) (T := TX4) (N := 8) hx hb hts (by decide +kernel) hown hK hP 3 rfl rfl 5 (by decide) (hts (.fieldLink RX1 54 "FiberTrace$Link" "places" "[I") (by decide +kernel)) (fun _ h9 => h9) rfl dX1_findReflections_29 ?_
          refine lv_iload_n hx hb dX1_findReflections_32 rfl (lv_at hl 2 rfl) ?_
          refine ft_csi (r := ftAt 10 pf (nI i)) (va_runSN (As := [.ref bp, .int (nI i)]) (rest := [.ref a0]) ⟨hx, hb, hml, hown, hts⟩ (c_X10_at l D cI cS bp 10 pf (nI i) (by first | assumption | omega)) ⟨va_cnB 2 hts gX1_findReflections_X10_at_n38 rfl rfl rfl (hKK.2 _ (List.mem_of_getElem? (i := 14) rfl)) (hts (.initialized RX10) (by decide +kernel)) (by decide +kernel) ⟨Nat.le_of_ble_eq_true rfl, Nat.le_of_ble_eq_true rfl⟩, hts (.static yX10_at) (by decide +kernel), trivial⟩ (ft_preRO hP hKK [5] rfl) rfl rfl hl.1 rfl (lv_room (Nat.le_of_ble_eq_true rfl)) dX1_findReflections_33 ⟨Nat.le_of_ble_eq_true rfl, Nat.le_of_ble_eq_true rfl⟩) ?_
          refine ft_top (y := pf i) (ftAt_N (by omega) (by omega)) ?_
          refine lv_aload_n hx hb dX1_findReflections_36 rfl (lv_at hl 1 rfl) ?_
          refine va_get (D := D) (ci := 4) (v := .ref br) (C := RX4) (T := TX4) (N := 8) hx hb hts (by decide +kernel) hown hK hP 3 rfl rfl 7 (by decide) (hts (.fieldLink RX1 55 "FiberTrace$Link" "reflections" "[I") (by decide +kernel)) (fun _ h9 => h9) rfl dX1_findReflections_37 ?_
          refine lv_iload_n hx hb dX1_findReflections_40 rfl (lv_at hl 2 rfl) ?_
          refine ft_csi (r := ftAt 10 rf (nI i)) (va_runSN (As := [.ref br, .int (nI i)]) (rest := [.int (pf i), .ref a0]) ⟨hx, hb, hml, hown, hts⟩ (c_X10_at l D cI cS br 10 rf (nI i) (by first | assumption | omega)) ⟨va_cnB 2 hts gX1_findReflections_X10_at_n38 rfl rfl rfl (hKK.2 _ (List.mem_of_getElem? (i := 14) rfl)) (hts (.initialized RX10) (by decide +kernel)) (by decide +kernel) ⟨Nat.le_of_ble_eq_true rfl, Nat.le_of_ble_eq_true rfl⟩, hts (.static yX10_at) (by decide +kernel), trivial⟩ (ft_preRO hP hKK [6] rfl) rfl rfl hl.1 rfl (lv_room (Nat.le_of_ble_eq_true rfl)) dX1_findReflections_41 ⟨Nat.le_of_ble_eq_true rfl, Nat.le_of_ble_eq_true rfl⟩) ?_
          refine ft_top (y := rf i) (ftAt_N (by omega) (by omega)) ?_
          refine ft_cv (wc := [(a0, .inr (1, [.ref ap, .ref ah, .int (nI q), .ref af, .ref as, .ref ag, .int (nI g)])), (ap, .inl (cI, 11, .inl g7_ap)), (ah, .inl (cI, 11, .inl g7_ah))]) (wr := [(b0, .inr (4, [.int len, .int att, .int en, .int (nI n), .ref bk, .ref bp, .ref bl, .ref br])), (bk, .inl (cI, 10, .inl kf)), (bp, .inl (cI, 10, .inl pf)), (br, .inl (cI, 10, .inl rf))]) (w1 := [(a0, .inr (1, [.ref ap, .ref ah, .int (nI (q + 1)), .ref af, .ref as, .ref ag, .int (nI g)])), (ap, .inl (cI, 11, .inl (upd g7_ap q (pf i)))), (ah, .inl (cI, 11, .inl (upd g7_ah q (rf i))))]) (ws1 := [(a0, .inr (1, [.ref ap, .ref ah, .int (nI (q + 1)), .ref af, .ref as, .ref ag, .int (nI g)])), (ap, .inl (cI, 11, .inl (upd g7_ap q (pf i)))), (ah, .inl (cI, 11, .inl (upd g7_ah q (rf i)))), (b0, .inr (4, [.int len, .int att, .int en, .int (nI n), .ref bk, .ref bp, .ref bl, .ref br])), (bk, .inl (cI, 10, .inl kf)), (bp, .inl (cI, 10, .inl pf)), (br, .inl (cI, 10, .inl rf))]) (va_runV (C := RX1) (As := [.int (pf i), .int (rf i)]) (rest := []) ⟨hx, hb, hml, hown, hts⟩ (c_X1_addReflection l D cI cS H.size a0 ap ah af as ag q g g7_ap g7_ah (pf i) (rf i) (by first | assumption | omega)) (cwV 2 hts gX1_findReflections_X1_addReflection rfl rfl rfl (by decide +kernel) ⟨Nat.le_of_ble_eq_true rfl, Nat.le_of_ble_eq_true rfl⟩) (ft_preRWV (ci := 1) (q0 := 0) hP hD hKK [0, 1, 2] rfl rfl rfl rfl rfl) rfl rfl hl.1 rfl (lv_room (Nat.le_of_ble_eq_true rfl)) dX1_findReflections_44 ⟨Nat.le_of_ble_eq_true rfl, Nat.le_of_ble_eq_true rfl⟩) hP hD hS hA [0, 1, 2] [3, 4, 5, 6] [4, 5, 6, 0, 1, 2, 3] rfl rfl (by decide) (by decide) (by decide) rfl rfl (fun H locs hP hD hS => ?_)
          have hP : va_P D vwCl [(a0, .inr (1, [.ref ap, .ref ah, .int (nI (q + 1)), .ref af, .ref as, .ref ag, .int (nI g)])), (ap, .inl (cI, 11, .inl (upd g7_ap q (pf i)))), (ah, .inl (cI, 11, .inl (upd g7_ah q (rf i)))), (b0, .inr (4, [.int len, .int att, .int en, .int (nI n), .ref bk, .ref bp, .ref bl, .ref br])), (bk, .inl (cI, 10, .inl kf)), (bp, .inl (cI, 10, .inl pf)), (br, .inl (cI, 10, .inl rf))] H := hP
          have hD : va_D A [(a0, .inr (1, [.ref ap, .ref ah, .int (nI (q + 1)), .ref af, .ref as, .ref ag, .int (nI g)])), (ap, .inl (cI, 11, .inl (upd g7_ap q (pf i)))), (ah, .inl (cI, 11, .inl (upd g7_ah q (rf i)))), (b0, .inr (4, [.int len, .int att, .int en, .int (nI n), .ref bk, .ref bp, .ref bl, .ref br])), (bk, .inl (cI, 10, .inl kf)), (bp, .inl (cI, 10, .inl pf)), (br, .inl (cI, 10, .inl rf))] := hD
          refine lv_iinc (v := nI (i + 1)) (lv' := [(2, .int (nI (i + 1))), (0, .ref a0), (1, .ref b0)]) hx hb dX1_findReflections_47 hl (k := 2) rfl (ft_inc i) (by decide) rfl (fun ls hl => ?_)
          refine lv_goto (tgt := 7) hx hb dX1_findReflections_50 (by decide) ?_
          exact ih7 (i + 1) (q + 1) (nI (i + 1)) (nI (q + 1)) (upd g7_ap q (pf i)) (upd g7_ah q (rf i)) (by omega) (by omega) (by first | (rw [ftFl, if_pos c24, hq]; done) | (rw [ftFl, if_neg c24]; exact hq)) (by first | rfl | assumption) (by first | rfl | assumption) (by first | (rw [ftFl, if_pos c24, eg7_ap, hq]; done) | (rw [ftFl, if_neg c24]; exact eg7_ap)) (by first | (rw [ftFl, if_pos c24, eg7_ah, hq]; done) | (rw [ftFl, if_neg c24]; exact eg7_ah)) _ _ hP hD hS ls (lv_sub hl [1, 2, 0] rfl)
  exact lp7 _ 0 0 0 0 pe he (Nat.lt_succ_self _) (by omega) (by rfl) (by rfl) (by rfl) (by rfl) (by rfl) _ _ hP hD hS ls (lv_sub hl [1, 2, 0] rfl)
set_option maxHeartbeats 4000000 in
set_option maxRecDepth 100000 in
theorem c_X1_addGhost (l : Launch) (D : va_G) (cI cS : ClassId) (sz : Nat) (a0 ap ah af as ag : Nat) (r g : Nat) (f1 f2 f3 : Nat → Int32) (x y h : Int32) (hg : g < 55) : Met l yX1_addGhost wsX1_addGhost ({ frames := 2, cells := 0, slots := 0, locals := 46 }) (ftRW D cI cS [.ref a0, .int x, .int y, .int h] [(a0, .inr (1, [.ref ap, .ref ah, .int (nI r), .ref af, .ref as, .ref ag, .int (nI g)])), (af, .inl (cI, 55, .inl f1)), (as, .inl (cI, 55, .inl f2)), (ag, .inl (cI, 55, .inl f3))] sz) (ftQv D [(a0, .inr (1, [.ref ap, .ref ah, .int (nI r), .ref af, .ref as, .ref ag, .int (nI g)])), (af, .inl (cI, 55, .inl f1)), (as, .inl (cI, 55, .inl f2)), (ag, .inl (cI, 55, .inl f3))] [(a0, .inr (1, [.ref ap, .ref ah, .int (nI r), .ref af, .ref as, .ref ag, .int (nI (ftGhIns (g, f1, f2, f3) x y h).1)])), (af, .inl (cI, 55, .inl ((ftGhIns (g, f1, f2, f3) x y h).2.1))), (as, .inl (cI, 55, .inl ((ftGhIns (g, f1, f2, f3) x y h).2.2.1))), (ag, .inl (cI, 55, .inl ((ftGhIns (g, f1, f2, f3) x y h).2.2.2)))] sz) 0 0 (va_A [(a0, .inr (1, [.ref ap, .ref ah, .int (nI r), .ref af, .ref as, .ref ag, .int (nI g)])), (af, .inl (cI, 55, .inl f1)), (as, .inl (cI, 55, .inl f2)), (ag, .inl (cI, 55, .inl f3))] sz) := by
  refine Met.ofW (cc := cX1_addGhost) (maxL := 5) (ret := none) (by decide) rfl ?_
  intro p e s m args below meth c s₁ B hml hv
  obtain ⟨rfl, hsz, hP, hKK, hD0⟩ := hv
  have hK := hKK.1
  have hx := B.exec
  have hb := B.bytes
  have hr := B.returns
  have hts := atoms_spec (ws := wsX1_addGhost) B.pre
  have hown : s.vm.findClass RX1 = some m.cls := findClass_of_methodNamed B.named
  have hlocks := B.notSynchronized
  subst hsz
  have hD := hD0.self (sz := s.heap.size)
  generalize hAe : va_A [(a0, .inr (1, [.ref ap, .ref ah, .int (nI r), .ref af, .ref as, .ref ag, .int (nI g)])), (af, .inl (cI, 55, .inl f1)), (as, .inl (cI, 55, .inl f2)), (ag, .inl (cI, 55, .inl f3))] s.heap.size = A at hD ⊢
  have hA : ∀ q : Nat, s.heap.size ≤ q → A q := fun q h => by rw [← hAe]; exact Or.inr h
  have hS : va_S A s.heap s.heap [] := va_S.rf
  have hD : va_D A [(a0, .inr (1, [.ref ap, .ref ah, .int (nI r), .ref af, .ref as, .ref ag, .int (nI g)])), (af, .inl (cI, 55, .inl f1)), (as, .inl (cI, 55, .inl f2)), (ag, .inl (cI, 55, .inl f3))] := hD
  have hP : va_P D vwCl [(a0, .inr (1, [.ref ap, .ref ah, .int (nI r), .ref af, .ref as, .ref ag, .int (nI g)])), (af, .inl (cI, 55, .inl f1)), (as, .inl (cI, 55, .inl f2)), (ag, .inl (cI, 55, .inl f3))] s.heap := hP
  have hl := lv_entry ([.ref a0, .int x, .int y, .int h]) (n := 5) (Nat.le_of_ble_eq_true rfl)
  rw [lg_entry_eq]
  generalize (lg_sl ([.ref a0, .int x, .int y, .int h]) ++ List.replicate (5 - (lg_sl ([.ref a0, .int x, .int y, .int h])).length) Slot.unset).toArray = ls at hl ⊢
  have hl : lv_has ls 5 [(0, .ref a0), (1, .int x), (2, .int y), (3, .int h)] := hl
  refine lv_aload_n hx hb dX1_addGhost_0 rfl (lv_at hl 0 rfl) ?_
  refine va_get (D := D) (ci := 1) (v := .int (nI g)) (C := RX1) (T := TX1) (N := 7) hx hb hts (by decide +kernel) hown hK hP 0 rfl rfl 6 (by decide) (hts (.fieldLink RX1 31 "FiberTrace$Echoes" "ghosts" "I") (by decide +kernel)) (fun _ h9 => h9) rfl dX1_addGhost_1 ?_
  refine lv_istore (lv' := [(4, .int (nI g)), (0, .ref a0), (1, .int x), (2, .int y), (3, .int h)]) hx hb dX1_addGhost_4 hl (by decide) rfl (fun ls hl => ?_)
  have lp6 : ∀ (n6 : Nat) (k : Nat) (x6_4 : Int32), k < n6 → (k ≤ g) → (ftDown f1 f2 (2 * y - x) g = ftDown f1 f2 (2 * y - x) k) → x6_4 = nI k → ∀ (H : Heap) (locs : List Loc), va_P D vwCl [(a0, .inr (1, [.ref ap, .ref ah, .int (nI r), .ref af, .ref as, .ref ag, .int (nI g)])), (af, .inl (cI, 55, .inl f1)), (as, .inl (cI, 55, .inl f2)), (ag, .inl (cI, 55, .inl f3))] H → va_D A [(a0, .inr (1, [.ref ap, .ref ah, .int (nI r), .ref af, .ref as, .ref ag, .int (nI g)])), (af, .inl (cI, 55, .inl f1)), (as, .inl (cI, 55, .inl f2)), (ag, .inl (cI, 55, .inl f3))] → va_S A s.heap H locs → ∀ ls : Array Slot, lv_has ls 5 [(0, .ref a0), (1, .int x), (2, .int y), (3, .int h), (4, .int x6_4)] → W p l e (headSpec wsX1_addGhost { frames := 2, cells := 0, slots := 0, locals := 46 }).room s m ([.ref a0, .int x, .int y, .int h] : List Value).toArray below meth c H locs 0 0 (MQ below (ftQv D [(a0, .inr (1, [.ref ap, .ref ah, .int (nI r), .ref af, .ref as, .ref ag, .int (nI g)])), (af, .inl (cI, 55, .inl f1)), (as, .inl (cI, 55, .inl f2)), (ag, .inl (cI, 55, .inl f3))] [(a0, .inr (1, [.ref ap, .ref ah, .int (nI r), .ref af, .ref as, .ref ag, .int (nI (ftGhIns (g, f1, f2, f3) x y h).1)])), (af, .inl (cI, 55, .inl ((ftGhIns (g, f1, f2, f3) x y h).2.1))), (as, .inl (cI, 55, .inl ((ftGhIns (g, f1, f2, f3) x y h).2.2.1))), (ag, .inl (cI, 55, .inl ((ftGhIns (g, f1, f2, f3) x y h).2.2.2)))] s.heap.size) ([.ref a0, .int x, .int y, .int h] : List Value).toArray s 0 0 A) (F0 m 6 ls []) := by
    intro n6
    induction n6 with
    | zero =>
      intro k x6_4  hm6
      exact absurd hm6 (Nat.not_lt_zero _)
    | succ n6 ih6 =>
      intro k x6_4  hm6 hkg hd ex6_4  H locs hP hD hS ls hl
      subst ex6_4
      refine lv_iload hx hb dX1_addGhost_6 (lv_at hl 4 rfl) ?_
      refine lv_if_le (tgt := 33) hx hb dX1_addGhost_8 (by decide) (fun c8 => ?_) (fun c8 => ?_)
      · have c8n : k ≤ 0 := ft_leN (by omega) (by omega) c8
        have hk0 : k = 0 := ft_le0 (by omega) c8
        have hix : ftDown f1 f2 (2 * y - x) g = k := by rw [hd, hk0]; rfl
        refine lv_aload_n hx hb dX1_addGhost_33 rfl (lv_at hl 0 rfl) ?_
        refine va_get (D := D) (ci := 1) (v := .ref af) (C := RX1) (T := TX1) (N := 7) hx hb hts (by decide +kernel) hown hK hP 0 rfl rfl 3 (by decide) (hts (.fieldLink RX1 18 "FiberTrace$Echoes" "firsts" "[I") (by decide +kernel)) (fun _ h9 => h9) rfl dX1_addGhost_34 ?_
        refine lv_aload_n hx hb dX1_addGhost_37 rfl (lv_at hl 0 rfl) ?_
        refine va_get (D := D) (ci := 1) (v := .int (nI g)) (C := RX1) (T := TX1) (N := 7) hx hb hts (by decide +kernel) hown hK hP 0 rfl rfl 6 (by decide) (hts (.fieldLink RX1 31 "FiberTrace$Echoes" "ghosts" "I") (by decide +kernel)) (fun _ h9 => h9) rfl dX1_addGhost_38 ?_
        refine lv_iload hx hb dX1_addGhost_41 (lv_at hl 4 rfl) ?_
        refine lv_iload_n hx hb dX1_addGhost_43 rfl (lv_at hl 1 rfl) ?_
        refine ft_cv (wc := [(af, .inl (cI, 55, .inl f1))]) (wr := [(a0, .inr (1, [.ref ap, .ref ah, .int (nI r), .ref af, .ref as, .ref ag, .int (nI g)])), (as, .inl (cI, 55, .inl f2)), (ag, .inl (cI, 55, .inl f3))]) (w1 := [(af, .inl (cI, 55, .inl (ftIns f1 g k x)))]) (ws1 := [(a0, .inr (1, [.ref ap, .ref ah, .int (nI r), .ref af, .ref as, .ref ag, .int (nI g)])), (af, .inl (cI, 55, .inl (ftIns f1 g k x))), (as, .inl (cI, 55, .inl f2)), (ag, .inl (cI, 55, .inl f3))]) (va_runSN (As := [.ref af, .int (nI g), .int (nI k), .int x]) (rest := []) ⟨hx, hb, hml, hown, hts⟩ (c_X10_insertInto l D cI cS H.size af 55 f1 g k x (by first | assumption | omega) (by first | assumption | omega) (by first | assumption | omega)) ⟨va_cnB 4 hts gX1_addGhost_X10_insertInto_n75 rfl rfl rfl (hKK.2 _ (List.mem_of_getElem? (i := 16) rfl)) (hts (.initialized RX10) (by decide +kernel)) (by decide +kernel) ⟨Nat.le_of_ble_eq_true rfl, Nat.le_of_ble_eq_true rfl⟩, hts (.static yX10_insertInto) (by decide +kernel), trivial⟩ (ft_preRW hP hD hKK [1] rfl rfl rfl) rfl rfl hl.1 rfl (lv_room (Nat.le_of_ble_eq_true rfl)) dX1_addGhost_44 ⟨Nat.le_of_ble_eq_true rfl, Nat.le_of_ble_eq_true rfl⟩) hP hD hS hA [1] [0, 2, 3] [0, 3, 1, 2] rfl rfl (by decide) (by decide) (by decide) rfl rfl (fun H locs hP hD hS => ?_)
        have hP : va_P D vwCl [(a0, .inr (1, [.ref ap, .ref ah, .int (nI r), .ref af, .ref as, .ref ag, .int (nI g)])), (af, .inl (cI, 55, .inl (ftIns f1 g k x))), (as, .inl (cI, 55, .inl f2)), (ag, .inl (cI, 55, .inl f3))] H := hP
        have hD : va_D A [(a0, .inr (1, [.ref ap, .ref ah, .int (nI r), .ref af, .ref as, .ref ag, .int (nI g)])), (af, .inl (cI, 55, .inl (ftIns f1 g k x))), (as, .inl (cI, 55, .inl f2)), (ag, .inl (cI, 55, .inl f3))] := hD
        refine lv_aload_n hx hb dX1_addGhost_47 rfl (lv_at hl 0 rfl) ?_
        refine va_get (D := D) (ci := 1) (v := .ref as) (C := RX1) (T := TX1) (N := 7) hx hb hts (by decide +kernel) hown hK hP 0 rfl rfl 4 (by decide) (hts (.fieldLink RX1 21 "FiberTrace$Echoes" "seconds" "[I") (by decide +kernel)) (fun _ h9 => h9) rfl dX1_addGhost_48 ?_
        refine lv_aload_n hx hb dX1_addGhost_51 rfl (lv_at hl 0 rfl) ?_
        refine va_get (D := D) (ci := 1) (v := .int (nI g)) (C := RX1) (T := TX1) (N := 7) hx hb hts (by decide +kernel) hown hK hP 0 rfl rfl 6 (by decide) (hts (.fieldLink RX1 31 "FiberTrace$Echoes" "ghosts" "I") (by decide +kernel)) (fun _ h9 => h9) rfl dX1_addGhost_52 ?_
        refine lv_iload hx hb dX1_addGhost_55 (lv_at hl 4 rfl) ?_
        refine lv_iload_n hx hb dX1_addGhost_57 rfl (lv_at hl 2 rfl) ?_
        refine ft_cv (wc := [(as, .inl (cI, 55, .inl f2))]) (wr := [(a0, .inr (1, [.ref ap, .ref ah, .int (nI r), .ref af, .ref as, .ref ag, .int (nI g)])), (af, .inl (cI, 55, .inl (ftIns f1 g k x))), (ag, .inl (cI, 55, .inl f3))]) (w1 := [(as, .inl (cI, 55, .inl (ftIns f2 g k y)))]) (ws1 := [(a0, .inr (1, [.ref ap, .ref ah, .int (nI r), .ref af, .ref as, .ref ag, .int (nI g)])), (af, .inl (cI, 55, .inl (ftIns f1 g k x))), (as, .inl (cI, 55, .inl (ftIns f2 g k y))), (ag, .inl (cI, 55, .inl f3))]) (va_runSN (As := [.ref as, .int (nI g), .int (nI k), .int y]) (rest := []) ⟨hx, hb, hml, hown, hts⟩ (c_X10_insertInto l D cI cS H.size as 55 f2 g k y (by first | assumption | omega) (by first | assumption | omega) (by first | assumption | omega)) ⟨va_cnB 4 hts gX1_addGhost_X10_insertInto_n75 rfl rfl rfl (hKK.2 _ (List.mem_of_getElem? (i := 16) rfl)) (hts (.initialized RX10) (by decide +kernel)) (by decide +kernel) ⟨Nat.le_of_ble_eq_true rfl, Nat.le_of_ble_eq_true rfl⟩, hts (.static yX10_insertInto) (by decide +kernel), trivial⟩ (ft_preRW hP hD hKK [2] rfl rfl rfl) rfl rfl hl.1 rfl (lv_room (Nat.le_of_ble_eq_true rfl)) dX1_addGhost_58 ⟨Nat.le_of_ble_eq_true rfl, Nat.le_of_ble_eq_true rfl⟩) hP hD hS hA [2] [0, 1, 3] [0, 1, 3, 2] rfl rfl (by decide) (by decide) (by decide) rfl rfl (fun H locs hP hD hS => ?_)
        have hP : va_P D vwCl [(a0, .inr (1, [.ref ap, .ref ah, .int (nI r), .ref af, .ref as, .ref ag, .int (nI g)])), (af, .inl (cI, 55, .inl (ftIns f1 g k x))), (as, .inl (cI, 55, .inl (ftIns f2 g k y))), (ag, .inl (cI, 55, .inl f3))] H := hP
        have hD : va_D A [(a0, .inr (1, [.ref ap, .ref ah, .int (nI r), .ref af, .ref as, .ref ag, .int (nI g)])), (af, .inl (cI, 55, .inl (ftIns f1 g k x))), (as, .inl (cI, 55, .inl (ftIns f2 g k y))), (ag, .inl (cI, 55, .inl f3))] := hD
        refine lv_aload_n hx hb dX1_addGhost_61 rfl (lv_at hl 0 rfl) ?_
        refine va_get (D := D) (ci := 1) (v := .ref ag) (C := RX1) (T := TX1) (N := 7) hx hb hts (by decide +kernel) hown hK hP 0 rfl rfl 5 (by decide) (hts (.fieldLink RX1 24 "FiberTrace$Echoes" "ghostHeights" "[I") (by decide +kernel)) (fun _ h9 => h9) rfl dX1_addGhost_62 ?_
        refine lv_aload_n hx hb dX1_addGhost_65 rfl (lv_at hl 0 rfl) ?_
        refine va_get (D := D) (ci := 1) (v := .int (nI g)) (C := RX1) (T := TX1) (N := 7) hx hb hts (by decide +kernel) hown hK hP 0 rfl rfl 6 (by decide) (hts (.fieldLink RX1 31 "FiberTrace$Echoes" "ghosts" "I") (by decide +kernel)) (fun _ h9 => h9) rfl dX1_addGhost_66 ?_
        refine lv_iload hx hb dX1_addGhost_69 (lv_at hl 4 rfl) ?_
        refine lv_iload_n hx hb dX1_addGhost_71 rfl (lv_at hl 3 rfl) ?_
        refine ft_cv (wc := [(ag, .inl (cI, 55, .inl f3))]) (wr := [(a0, .inr (1, [.ref ap, .ref ah, .int (nI r), .ref af, .ref as, .ref ag, .int (nI g)])), (af, .inl (cI, 55, .inl (ftIns f1 g k x))), (as, .inl (cI, 55, .inl (ftIns f2 g k y)))]) (w1 := [(ag, .inl (cI, 55, .inl (ftIns f3 g k h)))]) (ws1 := [(a0, .inr (1, [.ref ap, .ref ah, .int (nI r), .ref af, .ref as, .ref ag, .int (nI g)])), (af, .inl (cI, 55, .inl (ftIns f1 g k x))), (as, .inl (cI, 55, .inl (ftIns f2 g k y))), (ag, .inl (cI, 55, .inl (ftIns f3 g k h)))]) (va_runSN (As := [.ref ag, .int (nI g), .int (nI k), .int h]) (rest := []) ⟨hx, hb, hml, hown, hts⟩ (c_X10_insertInto l D cI cS H.size ag 55 f3 g k h (by first | assumption | omega) (by first | assumption | omega) (by first | assumption | omega)) ⟨va_cnB 4 hts gX1_addGhost_X10_insertInto_n75 rfl rfl rfl (hKK.2 _ (List.mem_of_getElem? (i := 16) rfl)) (hts (.initialized RX10) (by decide +kernel)) (by decide +kernel) ⟨Nat.le_of_ble_eq_true rfl, Nat.le_of_ble_eq_true rfl⟩, hts (.static yX10_insertInto) (by decide +kernel), trivial⟩ (ft_preRW hP hD hKK [3] rfl rfl rfl) rfl rfl hl.1 rfl (lv_room (Nat.le_of_ble_eq_true rfl)) dX1_addGhost_72 ⟨Nat.le_of_ble_eq_true rfl, Nat.le_of_ble_eq_true rfl⟩) hP hD hS hA [3] [0, 1, 2] [0, 1, 2, 3] rfl rfl (by decide) (by decide) (by decide) rfl rfl (fun H locs hP hD hS => ?_)
        have hP : va_P D vwCl [(a0, .inr (1, [.ref ap, .ref ah, .int (nI r), .ref af, .ref as, .ref ag, .int (nI g)])), (af, .inl (cI, 55, .inl (ftIns f1 g k x))), (as, .inl (cI, 55, .inl (ftIns f2 g k y))), (ag, .inl (cI, 55, .inl (ftIns f3 g k h)))] H := hP
        have hD : va_D A [(a0, .inr (1, [.ref ap, .ref ah, .int (nI r), .ref af, .ref as, .ref ag, .int (nI g)])), (af, .inl (cI, 55, .inl (ftIns f1 g k x))), (as, .inl (cI, 55, .inl (ftIns f2 g k y))), (ag, .inl (cI, 55, .inl (ftIns f3 g k h)))] := hD
        refine lv_aload_n hx hb dX1_addGhost_75 rfl (lv_at hl 0 rfl) ?_
        refine lv_dup hx hb dX1_addGhost_76 rfl ?_
        refine va_get (D := D) (ci := 1) (v := .int (nI g)) (C := RX1) (T := TX1) (N := 7) hx hb hts (by decide +kernel) hown hK hP 0 rfl rfl 6 (by decide) (hts (.fieldLink RX1 31 "FiberTrace$Echoes" "ghosts" "I") (by decide +kernel)) (fun _ h9 => h9) rfl dX1_addGhost_77 ?_
        refine lv_iconst (v := 1) hx hb dX1_addGhost_80 (by decide) ?_
        refine lv_iadd hx hb dX1_addGhost_81 ?_
        refine ft_top (y := nI (g + 1)) (ft_addN g 1) ?_
        refine va_put (D := D) (ci := 1) (v := .int (nI (g + 1))) (ty := .int) (C := RX1) (T := TX1) (N := 7) hx hb hts (by decide +kernel) tyX1 tyX1_ok nmX1 hown hK hP hD hS 0 rfl rfl 6 (by decide) (hts (.fieldLink RX1 31 "FiberTrace$Echoes" "ghosts" "I") (by decide +kernel)) (fun _ h9 => h9) rfl (by decide +kernel) rfl rfl (Nat.le_of_ble_eq_true rfl) dX1_addGhost_82 (fun H locs hP hD hS => ?_)
        have hP : va_P D vwCl [(a0, .inr (1, [.ref ap, .ref ah, .int (nI r), .ref af, .ref as, .ref ag, .int (nI (g + 1))])), (af, .inl (cI, 55, .inl (ftIns f1 g k x))), (as, .inl (cI, 55, .inl (ftIns f2 g k y))), (ag, .inl (cI, 55, .inl (ftIns f3 g k h)))] H := hP
        have hD : va_D A [(a0, .inr (1, [.ref ap, .ref ah, .int (nI r), .ref af, .ref as, .ref ag, .int (nI (g + 1))])), (af, .inl (cI, 55, .inl (ftIns f1 g k x))), (as, .inl (cI, 55, .inl (ftIns f2 g k y))), (ag, .inl (cI, 55, .inl (ftIns f3 g k h)))] := hD
        have hw9 : ([(a0, .inr (1, [.ref ap, .ref ah, .int (nI r), .ref af, .ref as, .ref ag, .int (nI (g + 1))])), (af, .inl (cI, 55, .inl (ftIns f1 g k x))), (as, .inl (cI, 55, .inl (ftIns f2 g k y))), (ag, .inl (cI, 55, .inl (ftIns f3 g k h)))] : va_W) = [(a0, .inr (1, [.ref ap, .ref ah, .int (nI r), .ref af, .ref as, .ref ag, .int (nI (ftGhIns (g, f1, f2, f3) x y h).1)])), (af, .inl (cI, 55, .inl ((ftGhIns (g, f1, f2, f3) x y h).2.1))), (as, .inl (cI, 55, .inl ((ftGhIns (g, f1, f2, f3) x y h).2.2.1))), (ag, .inl (cI, 55, .inl ((ftGhIns (g, f1, f2, f3) x y h).2.2.2)))] := by rw [ftGhIns, hix]
        rw [hw9] at hP hD
        exact W.vret hx hb hr (fun t ht hW => ⟨⟨(), rfl, trivial, by rw [ht]; exact hP, by rw [hAe]; exact hD⟩, by rw [hAe]; exact hS.F ht⟩) hS.2.2 dX1_addGhost_85
      · have c8n : 0 < k := ft_nleN (by omega) (by omega) c8
        have hk1 : 0 < k := ft_gt0 c8
        refine lv_aload_n hx hb dX1_addGhost_11 rfl (lv_at hl 0 rfl) ?_
        refine lv_iload hx hb dX1_addGhost_12 (lv_at hl 4 rfl) ?_
        refine lv_iconst (v := 1) hx hb dX1_addGhost_14 (by decide) ?_
        refine lv_isub hx hb dX1_addGhost_15 ?_
        refine ft_top (y := nI (k - 1)) (ft_subN (a := k) (b := 1) (by omega)) ?_
        refine ft_csi (r := ftGhPl f1 f2 (k - 1)) (va_runV (C := RX1) (As := [.int (nI (k - 1))]) (rest := []) ⟨hx, hb, hml, hown, hts⟩ (c_X1_ghostPlace l D cI cS a0 ap ah af as ag r g f1 f2 (k - 1) (by first | assumption | omega)) (cwV 1 hts gX1_addGhost_X1_ghostPlace rfl rfl rfl (by decide +kernel) ⟨Nat.le_of_ble_eq_true rfl, Nat.le_of_ble_eq_true rfl⟩) (ft_preROV (ci := 1) (q0 := 0) hP hKK [0, 1, 2] rfl rfl rfl) rfl rfl hl.1 rfl (lv_room (Nat.le_of_ble_eq_true rfl)) dX1_addGhost_16 ⟨Nat.le_of_ble_eq_true rfl, Nat.le_of_ble_eq_true rfl⟩) ?_
        refine lv_iconst (v := 2) hx hb dX1_addGhost_19 (by decide) ?_
        refine lv_iload_n hx hb dX1_addGhost_20 rfl (lv_at hl 2 rfl) ?_
        refine lv_imul hx hb dX1_addGhost_21 ?_
        refine lv_iload_n hx hb dX1_addGhost_22 rfl (lv_at hl 1 rfl) ?_
        refine lv_isub hx hb dX1_addGhost_23 ?_
        refine lv_icmp_le (tgt := 33) hx hb dX1_addGhost_24 (by decide) (fun c24 => ?_) (fun c24 => ?_)
        · have hix : ftDown f1 f2 (2 * y - x) g = k := by rw [hd]; exact ftDown_ge hk1 (Int32.not_lt.mpr c24)
          refine lv_aload_n hx hb dX1_addGhost_33 rfl (lv_at hl 0 rfl) ?_
          refine va_get (D := D) (ci := 1) (v := .ref af) (C := RX1) (T := TX1) (N := 7) hx hb hts (by decide +kernel) hown hK hP 0 rfl rfl 3 (by decide) (hts (.fieldLink RX1 18 "FiberTrace$Echoes" "firsts" "[I") (by decide +kernel)) (fun _ h9 => h9) rfl dX1_addGhost_34 ?_
          refine lv_aload_n hx hb dX1_addGhost_37 rfl (lv_at hl 0 rfl) ?_
          refine va_get (D := D) (ci := 1) (v := .int (nI g)) (C := RX1) (T := TX1) (N := 7) hx hb hts (by decide +kernel) hown hK hP 0 rfl rfl 6 (by decide) (hts (.fieldLink RX1 31 "FiberTrace$Echoes" "ghosts" "I") (by decide +kernel)) (fun _ h9 => h9) rfl dX1_addGhost_38 ?_
          refine lv_iload hx hb dX1_addGhost_41 (lv_at hl 4 rfl) ?_
          refine lv_iload_n hx hb dX1_addGhost_43 rfl (lv_at hl 1 rfl) ?_
          refine ft_cv (wc := [(af, .inl (cI, 55, .inl f1))]) (wr := [(a0, .inr (1, [.ref ap, .ref ah, .int (nI r), .ref af, .ref as, .ref ag, .int (nI g)])), (as, .inl (cI, 55, .inl f2)), (ag, .inl (cI, 55, .inl f3))]) (w1 := [(af, .inl (cI, 55, .inl (ftIns f1 g k x)))]) (ws1 := [(a0, .inr (1, [.ref ap, .ref ah, .int (nI r), .ref af, .ref as, .ref ag, .int (nI g)])), (af, .inl (cI, 55, .inl (ftIns f1 g k x))), (as, .inl (cI, 55, .inl f2)), (ag, .inl (cI, 55, .inl f3))]) (va_runSN (As := [.ref af, .int (nI g), .int (nI k), .int x]) (rest := []) ⟨hx, hb, hml, hown, hts⟩ (c_X10_insertInto l D cI cS H.size af 55 f1 g k x (by first | assumption | omega) (by first | assumption | omega) (by first | assumption | omega)) ⟨va_cnB 4 hts gX1_addGhost_X10_insertInto_n75 rfl rfl rfl (hKK.2 _ (List.mem_of_getElem? (i := 16) rfl)) (hts (.initialized RX10) (by decide +kernel)) (by decide +kernel) ⟨Nat.le_of_ble_eq_true rfl, Nat.le_of_ble_eq_true rfl⟩, hts (.static yX10_insertInto) (by decide +kernel), trivial⟩ (ft_preRW hP hD hKK [1] rfl rfl rfl) rfl rfl hl.1 rfl (lv_room (Nat.le_of_ble_eq_true rfl)) dX1_addGhost_44 ⟨Nat.le_of_ble_eq_true rfl, Nat.le_of_ble_eq_true rfl⟩) hP hD hS hA [1] [0, 2, 3] [0, 3, 1, 2] rfl rfl (by decide) (by decide) (by decide) rfl rfl (fun H locs hP hD hS => ?_)
          have hP : va_P D vwCl [(a0, .inr (1, [.ref ap, .ref ah, .int (nI r), .ref af, .ref as, .ref ag, .int (nI g)])), (af, .inl (cI, 55, .inl (ftIns f1 g k x))), (as, .inl (cI, 55, .inl f2)), (ag, .inl (cI, 55, .inl f3))] H := hP
          have hD : va_D A [(a0, .inr (1, [.ref ap, .ref ah, .int (nI r), .ref af, .ref as, .ref ag, .int (nI g)])), (af, .inl (cI, 55, .inl (ftIns f1 g k x))), (as, .inl (cI, 55, .inl f2)), (ag, .inl (cI, 55, .inl f3))] := hD
          refine lv_aload_n hx hb dX1_addGhost_47 rfl (lv_at hl 0 rfl) ?_
          refine va_get (D := D) (ci := 1) (v := .ref as) (C := RX1) (T := TX1) (N := 7) hx hb hts (by decide +kernel) hown hK hP 0 rfl rfl 4 (by decide) (hts (.fieldLink RX1 21 "FiberTrace$Echoes" "seconds" "[I") (by decide +kernel)) (fun _ h9 => h9) rfl dX1_addGhost_48 ?_
          refine lv_aload_n hx hb dX1_addGhost_51 rfl (lv_at hl 0 rfl) ?_
          refine va_get (D := D) (ci := 1) (v := .int (nI g)) (C := RX1) (T := TX1) (N := 7) hx hb hts (by decide +kernel) hown hK hP 0 rfl rfl 6 (by decide) (hts (.fieldLink RX1 31 "FiberTrace$Echoes" "ghosts" "I") (by decide +kernel)) (fun _ h9 => h9) rfl dX1_addGhost_52 ?_
          refine lv_iload hx hb dX1_addGhost_55 (lv_at hl 4 rfl) ?_
          refine lv_iload_n hx hb dX1_addGhost_57 rfl (lv_at hl 2 rfl) ?_
          refine ft_cv (wc := [(as, .inl (cI, 55, .inl f2))]) (wr := [(a0, .inr (1, [.ref ap, .ref ah, .int (nI r), .ref af, .ref as, .ref ag, .int (nI g)])), (af, .inl (cI, 55, .inl (ftIns f1 g k x))), (ag, .inl (cI, 55, .inl f3))]) (w1 := [(as, .inl (cI, 55, .inl (ftIns f2 g k y)))]) (ws1 := [(a0, .inr (1, [.ref ap, .ref ah, .int (nI r), .ref af, .ref as, .ref ag, .int (nI g)])), (af, .inl (cI, 55, .inl (ftIns f1 g k x))), (as, .inl (cI, 55, .inl (ftIns f2 g k y))), (ag, .inl (cI, 55, .inl f3))]) (va_runSN (As := [.ref as, .int (nI g), .int (nI k), .int y]) (rest := []) ⟨hx, hb, hml, hown, hts⟩ (c_X10_insertInto l D cI cS H.size as 55 f2 g k y (by first | assumption | omega) (by first | assumption | omega) (by first | assumption | omega)) ⟨va_cnB 4 hts gX1_addGhost_X10_insertInto_n75 rfl rfl rfl (hKK.2 _ (List.mem_of_getElem? (i := 16) rfl)) (hts (.initialized RX10) (by decide +kernel)) (by decide +kernel) ⟨Nat.le_of_ble_eq_true rfl, Nat.le_of_ble_eq_true rfl⟩, hts (.static yX10_insertInto) (by decide +kernel), trivial⟩ (ft_preRW hP hD hKK [2] rfl rfl rfl) rfl rfl hl.1 rfl (lv_room (Nat.le_of_ble_eq_true rfl)) dX1_addGhost_58 ⟨Nat.le_of_ble_eq_true rfl, Nat.le_of_ble_eq_true rfl⟩) hP hD hS hA [2] [0, 1, 3] [0, 1, 3, 2] rfl rfl (by decide) (by decide) (by decide) rfl rfl (fun H locs hP hD hS => ?_)
          have hP : va_P D vwCl [(a0, .inr (1, [.ref ap, .ref ah, .int (nI r), .ref af, .ref as, .ref ag, .int (nI g)])), (af, .inl (cI, 55, .inl (ftIns f1 g k x))), (as, .inl (cI, 55, .inl (ftIns f2 g k y))), (ag, .inl (cI, 55, .inl f3))] H := hP
          have hD : va_D A [(a0, .inr (1, [.ref ap, .ref ah, .int (nI r), .ref af, .ref as, .ref ag, .int (nI g)])), (af, .inl (cI, 55, .inl (ftIns f1 g k x))), (as, .inl (cI, 55, .inl (ftIns f2 g k y))), (ag, .inl (cI, 55, .inl f3))] := hD
          refine lv_aload_n hx hb dX1_addGhost_61 rfl (lv_at hl 0 rfl) ?_
          refine va_get (D := D) (ci := 1) (v := .ref ag) (C := RX1) (T := TX1) (N := 7) hx hb hts (by decide +kernel) hown hK hP 0 rfl rfl 5 (by decide) (hts (.fieldLink RX1 24 "FiberTrace$Echoes" "ghostHeights" "[I") (by decide +kernel)) (fun _ h9 => h9) rfl dX1_addGhost_62 ?_
          refine lv_aload_n hx hb dX1_addGhost_65 rfl (lv_at hl 0 rfl) ?_
          refine va_get (D := D) (ci := 1) (v := .int (nI g)) (C := RX1) (T := TX1) (N := 7) hx hb hts (by decide +kernel) hown hK hP 0 rfl rfl 6 (by decide) (hts (.fieldLink RX1 31 "FiberTrace$Echoes" "ghosts" "I") (by decide +kernel)) (fun _ h9 => h9) rfl dX1_addGhost_66 ?_
          refine lv_iload hx hb dX1_addGhost_69 (lv_at hl 4 rfl) ?_
          refine lv_iload_n hx hb dX1_addGhost_71 rfl (lv_at hl 3 rfl) ?_
          refine ft_cv (wc := [(ag, .inl (cI, 55, .inl f3))]) (wr := [(a0, .inr (1, [.ref ap, .ref ah, .int (nI r), .ref af, .ref as, .ref ag, .int (nI g)])), (af, .inl (cI, 55, .inl (ftIns f1 g k x))), (as, .inl (cI, 55, .inl (ftIns f2 g k y)))]) (w1 := [(ag, .inl (cI, 55, .inl (ftIns f3 g k h)))]) (ws1 := [(a0, .inr (1, [.ref ap, .ref ah, .int (nI r), .ref af, .ref as, .ref ag, .int (nI g)])), (af, .inl (cI, 55, .inl (ftIns f1 g k x))), (as, .inl (cI, 55, .inl (ftIns f2 g k y))), (ag, .inl (cI, 55, .inl (ftIns f3 g k h)))]) (va_runSN (As := [.ref ag, .int (nI g), .int (nI k), .int h]) (rest := []) ⟨hx, hb, hml, hown, hts⟩ (c_X10_insertInto l D cI cS H.size ag 55 f3 g k h (by first | assumption | omega) (by first | assumption | omega) (by first | assumption | omega)) ⟨va_cnB 4 hts gX1_addGhost_X10_insertInto_n75 rfl rfl rfl (hKK.2 _ (List.mem_of_getElem? (i := 16) rfl)) (hts (.initialized RX10) (by decide +kernel)) (by decide +kernel) ⟨Nat.le_of_ble_eq_true rfl, Nat.le_of_ble_eq_true rfl⟩, hts (.static yX10_insertInto) (by decide +kernel), trivial⟩ (ft_preRW hP hD hKK [3] rfl rfl rfl) rfl rfl hl.1 rfl (lv_room (Nat.le_of_ble_eq_true rfl)) dX1_addGhost_72 ⟨Nat.le_of_ble_eq_true rfl, Nat.le_of_ble_eq_true rfl⟩) hP hD hS hA [3] [0, 1, 2] [0, 1, 2, 3] rfl rfl (by decide) (by decide) (by decide) rfl rfl (fun H locs hP hD hS => ?_)
          have hP : va_P D vwCl [(a0, .inr (1, [.ref ap, .ref ah, .int (nI r), .ref af, .ref as, .ref ag, .int (nI g)])), (af, .inl (cI, 55, .inl (ftIns f1 g k x))), (as, .inl (cI, 55, .inl (ftIns f2 g k y))), (ag, .inl (cI, 55, .inl (ftIns f3 g k h)))] H := hP
          have hD : va_D A [(a0, .inr (1, [.ref ap, .ref ah, .int (nI r), .ref af, .ref as, .ref ag, .int (nI g)])), (af, .inl (cI, 55, .inl (ftIns f1 g k x))), (as, .inl (cI, 55, .inl (ftIns f2 g k y))), (ag, .inl (cI, 55, .inl (ftIns f3 g k h)))] := hD
          refine lv_aload_n hx hb dX1_addGhost_75 rfl (lv_at hl 0 rfl) ?_
          refine lv_dup hx hb dX1_addGhost_76 rfl ?_
          refine va_get (D := D) (ci := 1) (v := .int (nI g)) (C := RX1) (T := TX1) (N := 7) hx hb hts (by decide +kernel) hown hK hP 0 rfl rfl 6 (by decide) (hts (.fieldLink RX1 31 "FiberTrace$Echoes" "ghosts" "I") (by decide +kernel)) (fun _ h9 => h9) rfl dX1_addGhost_77 ?_
          refine lv_iconst (v := 1) hx hb dX1_addGhost_80 (by decide) ?_
          refine lv_iadd hx hb dX1_addGhost_81 ?_
          refine ft_top (y := nI (g + 1)) (ft_addN g 1) ?_
          refine va_put (D := D) (ci := 1) (v := .int (nI (g + 1))) (ty := .int) (C := RX1) (T := TX1) (N := 7) hx hb hts (by decide +kernel) tyX1 tyX1_ok nmX1 hown hK hP hD hS 0 rfl rfl 6 (by decide) (hts (.fieldLink RX1 31 "FiberTrace$Echoes" "ghosts" "I") (by decide +kernel)) (fun _ h9 => h9) rfl (by decide +kernel) rfl rfl (Nat.le_of_ble_eq_true rfl) dX1_addGhost_82 (fun H locs hP hD hS => ?_)
          have hP : va_P D vwCl [(a0, .inr (1, [.ref ap, .ref ah, .int (nI r), .ref af, .ref as, .ref ag, .int (nI (g + 1))])), (af, .inl (cI, 55, .inl (ftIns f1 g k x))), (as, .inl (cI, 55, .inl (ftIns f2 g k y))), (ag, .inl (cI, 55, .inl (ftIns f3 g k h)))] H := hP
          have hD : va_D A [(a0, .inr (1, [.ref ap, .ref ah, .int (nI r), .ref af, .ref as, .ref ag, .int (nI (g + 1))])), (af, .inl (cI, 55, .inl (ftIns f1 g k x))), (as, .inl (cI, 55, .inl (ftIns f2 g k y))), (ag, .inl (cI, 55, .inl (ftIns f3 g k h)))] := hD
          have hw9 : ([(a0, .inr (1, [.ref ap, .ref ah, .int (nI r), .ref af, .ref as, .ref ag, .int (nI (g + 1))])), (af, .inl (cI, 55, .inl (ftIns f1 g k x))), (as, .inl (cI, 55, .inl (ftIns f2 g k y))), (ag, .inl (cI, 55, .inl (ftIns f3 g k h)))] : va_W) = [(a0, .inr (1, [.ref ap, .ref ah, .int (nI r), .ref af, .ref as, .ref ag, .int (nI (ftGhIns (g, f1, f2, f3) x y h).1)])), (af, .inl (cI, 55, .inl ((ftGhIns (g, f1, f2, f3) x y h).2.1))), (as, .inl (cI, 55, .inl ((ftGhIns (g, f1, f2, f3) x y h).2.2.1))), (ag, .inl (cI, 55, .inl ((ftGhIns (g, f1, f2, f3) x y h).2.2.2)))] := by rw [ftGhIns, hix]
          rw [hw9] at hP hD
          exact W.vret hx hb hr (fun t ht hW => ⟨⟨(), rfl, trivial, by rw [ht]; exact hP, by rw [hAe]; exact hD⟩, by rw [hAe]; exact hS.F ht⟩) hS.2.2 dX1_addGhost_85
        · refine lv_iinc (v := nI (k - 1)) (lv' := [(4, .int (nI (k - 1))), (0, .ref a0), (1, .int x), (2, .int y), (3, .int h)]) hx hb dX1_addGhost_27 hl (k := 4) rfl (ft_dec (by omega)) (by decide) rfl (fun ls hl => ?_)
          refine lv_goto (tgt := 6) hx hb dX1_addGhost_30 (by decide) ?_
          exact ih6 (k - 1) (nI (k - 1))  (by omega) (by omega) (by rw [hd]; exact ftDown_gt hk1 (Int32.not_le.mp c24)) (by first | rfl | assumption)  _ _ hP hD hS ls (lv_sub hl [1, 2, 3, 4, 0] rfl)
  exact lp6 _ g (nI g)  (Nat.lt_succ_self _) (by omega) (by rfl) (by rfl) _ _ hP hD hS ls (lv_sub hl [1, 2, 3, 4, 0] rfl)
set_option maxHeartbeats 4000000 in
set_option maxRecDepth 100000 in
theorem c_X1_find (l : Launch) (D : va_G) (cI cS : ClassId) (sz : Nat) (a0 ap ah af as ag : Nat) (r g : Nat) (pe he f1 f2 f3 : Nat → Int32) (b0 : Nat) (len att en : Int32) (n bk bp bl br : Nat) (kf pf rf : Nat → Int32) (gl : Int32) (hn : n ≤ 10) : Met l yX1_find wsX1_find ({ frames := 3, cells := 0, slots := 0, locals := 70 }) (ftRW D cI cS [.ref a0, .ref b0, .int gl] [(a0, .inr (1, [.ref ap, .ref ah, .int (nI r), .ref af, .ref as, .ref ag, .int (nI g)])), (ap, .inl (cI, 11, .inl pe)), (ah, .inl (cI, 11, .inl he)), (af, .inl (cI, 55, .inl f1)), (as, .inl (cI, 55, .inl f2)), (ag, .inl (cI, 55, .inl f3)), (b0, .inr (4, [.int len, .int att, .int en, .int (nI n), .ref bk, .ref bp, .ref bl, .ref br])), (bk, .inl (cI, 10, .inl kf)), (bp, .inl (cI, 10, .inl pf)), (br, .inl (cI, 10, .inl rf))] sz) (ftQv D [(a0, .inr (1, [.ref ap, .ref ah, .int (nI r), .ref af, .ref as, .ref ag, .int (nI g)])), (ap, .inl (cI, 11, .inl pe)), (ah, .inl (cI, 11, .inl he)), (af, .inl (cI, 55, .inl f1)), (as, .inl (cI, 55, .inl f2)), (ag, .inl (cI, 55, .inl f3)), (b0, .inr (4, [.int len, .int att, .int en, .int (nI n), .ref bk, .ref bp, .ref bl, .ref br])), (bk, .inl (cI, 10, .inl kf)), (bp, .inl (cI, 10, .inl pf)), (br, .inl (cI, 10, .inl rf))] [(a0, .inr (1, [.ref ap, .ref ah, .int (nI (ftFlE len en kf pf rf pe he n).1), .ref af, .ref as, .ref ag, .int (nI (ftGhs (ftFlE len en kf pf rf pe he n) gl f1 f2 f3).1)])), (ap, .inl (cI, 11, .inl ((ftFlE len en kf pf rf pe he n).2.1))), (ah, .inl (cI, 11, .inl ((ftFlE len en kf pf rf pe he n).2.2))), (af, .inl (cI, 55, .inl ((ftGhs (ftFlE len en kf pf rf pe he n) gl f1 f2 f3).2.1))), (as, .inl (cI, 55, .inl ((ftGhs (ftFlE len en kf pf rf pe he n) gl f1 f2 f3).2.2.1))), (ag, .inl (cI, 55, .inl ((ftGhs (ftFlE len en kf pf rf pe he n) gl f1 f2 f3).2.2.2))), (b0, .inr (4, [.int len, .int att, .int en, .int (nI n), .ref bk, .ref bp, .ref bl, .ref br])), (bk, .inl (cI, 10, .inl kf)), (bp, .inl (cI, 10, .inl pf)), (br, .inl (cI, 10, .inl rf))] sz) 0 0 (va_A [(a0, .inr (1, [.ref ap, .ref ah, .int (nI r), .ref af, .ref as, .ref ag, .int (nI g)])), (ap, .inl (cI, 11, .inl pe)), (ah, .inl (cI, 11, .inl he)), (af, .inl (cI, 55, .inl f1)), (as, .inl (cI, 55, .inl f2)), (ag, .inl (cI, 55, .inl f3)), (b0, .inr (4, [.int len, .int att, .int en, .int (nI n), .ref bk, .ref bp, .ref bl, .ref br])), (bk, .inl (cI, 10, .inl kf)), (bp, .inl (cI, 10, .inl pf)), (br, .inl (cI, 10, .inl rf))] sz) := by
  refine Met.ofW (cc := cX1_find) (maxL := 6) (ret := none) (by decide) rfl ?_
  intro p e s m args below meth c s₁ B hml hv
  obtain ⟨rfl, hsz, hP, hKK, hD0⟩ := hv
  have hK := hKK.1
  have hx := B.exec
  have hb := B.bytes
  have hr := B.returns
  have hts := atoms_spec (ws := wsX1_find) B.pre
  have hown : s.vm.findClass RX1 = some m.cls := findClass_of_methodNamed B.named
  have hlocks := B.notSynchronized
  subst hsz
  have hD := hD0.self (sz := s.heap.size)
  generalize hAe : va_A [(a0, .inr (1, [.ref ap, .ref ah, .int (nI r), .ref af, .ref as, .ref ag, .int (nI g)])), (ap, .inl (cI, 11, .inl pe)), (ah, .inl (cI, 11, .inl he)), (af, .inl (cI, 55, .inl f1)), (as, .inl (cI, 55, .inl f2)), (ag, .inl (cI, 55, .inl f3)), (b0, .inr (4, [.int len, .int att, .int en, .int (nI n), .ref bk, .ref bp, .ref bl, .ref br])), (bk, .inl (cI, 10, .inl kf)), (bp, .inl (cI, 10, .inl pf)), (br, .inl (cI, 10, .inl rf))] s.heap.size = A at hD ⊢
  have hA : ∀ q : Nat, s.heap.size ≤ q → A q := fun q h => by rw [← hAe]; exact Or.inr h
  have hS : va_S A s.heap s.heap [] := va_S.rf
  have hD : va_D A [(a0, .inr (1, [.ref ap, .ref ah, .int (nI r), .ref af, .ref as, .ref ag, .int (nI g)])), (ap, .inl (cI, 11, .inl pe)), (ah, .inl (cI, 11, .inl he)), (af, .inl (cI, 55, .inl f1)), (as, .inl (cI, 55, .inl f2)), (ag, .inl (cI, 55, .inl f3)), (b0, .inr (4, [.int len, .int att, .int en, .int (nI n), .ref bk, .ref bp, .ref bl, .ref br])), (bk, .inl (cI, 10, .inl kf)), (bp, .inl (cI, 10, .inl pf)), (br, .inl (cI, 10, .inl rf))] := hD
  have hP : va_P D vwCl [(a0, .inr (1, [.ref ap, .ref ah, .int (nI r), .ref af, .ref as, .ref ag, .int (nI g)])), (ap, .inl (cI, 11, .inl pe)), (ah, .inl (cI, 11, .inl he)), (af, .inl (cI, 55, .inl f1)), (as, .inl (cI, 55, .inl f2)), (ag, .inl (cI, 55, .inl f3)), (b0, .inr (4, [.int len, .int att, .int en, .int (nI n), .ref bk, .ref bp, .ref bl, .ref br])), (bk, .inl (cI, 10, .inl kf)), (bp, .inl (cI, 10, .inl pf)), (br, .inl (cI, 10, .inl rf))] s.heap := hP
  have hl := lv_entry ([.ref a0, .ref b0, .int gl]) (n := 6) (Nat.le_of_ble_eq_true rfl)
  rw [lg_entry_eq]
  generalize (lg_sl ([.ref a0, .ref b0, .int gl]) ++ List.replicate (6 - (lg_sl ([.ref a0, .ref b0, .int gl])).length) Slot.unset).toArray = ls at hl ⊢
  have hl : lv_has ls 6 [(0, .ref a0), (1, .ref b0), (2, .int gl)] := hl
  refine lv_aload_n hx hb dX1_find_0 rfl (lv_at hl 0 rfl) ?_
  refine lv_aload_n hx hb dX1_find_1 rfl (lv_at hl 1 rfl) ?_
  refine ft_cv (wc := [(a0, .inr (1, [.ref ap, .ref ah, .int (nI r), .ref af, .ref as, .ref ag, .int (nI g)])), (ap, .inl (cI, 11, .inl pe)), (ah, .inl (cI, 11, .inl he)), (b0, .inr (4, [.int len, .int att, .int en, .int (nI n), .ref bk, .ref bp, .ref bl, .ref br])), (bk, .inl (cI, 10, .inl kf)), (bp, .inl (cI, 10, .inl pf)), (br, .inl (cI, 10, .inl rf))]) (wr := [(af, .inl (cI, 55, .inl f1)), (as, .inl (cI, 55, .inl f2)), (ag, .inl (cI, 55, .inl f3))]) (w1 := [(a0, .inr (1, [.ref ap, .ref ah, .int (nI (ftFlE len en kf pf rf pe he n).1), .ref af, .ref as, .ref ag, .int (nI g)])), (ap, .inl (cI, 11, .inl ((ftFlE len en kf pf rf pe he n).2.1))), (ah, .inl (cI, 11, .inl ((ftFlE len en kf pf rf pe he n).2.2))), (b0, .inr (4, [.int len, .int att, .int en, .int (nI n), .ref bk, .ref bp, .ref bl, .ref br])), (bk, .inl (cI, 10, .inl kf)), (bp, .inl (cI, 10, .inl pf)), (br, .inl (cI, 10, .inl rf))]) (ws1 := [(a0, .inr (1, [.ref ap, .ref ah, .int (nI (ftFlE len en kf pf rf pe he n).1), .ref af, .ref as, .ref ag, .int (nI g)])), (ap, .inl (cI, 11, .inl ((ftFlE len en kf pf rf pe he n).2.1))), (ah, .inl (cI, 11, .inl ((ftFlE len en kf pf rf pe he n).2.2))), (af, .inl (cI, 55, .inl f1)), (as, .inl (cI, 55, .inl f2)), (ag, .inl (cI, 55, .inl f3)), (b0, .inr (4, [.int len, .int att, .int en, .int (nI n), .ref bk, .ref bp, .ref bl, .ref br])), (bk, .inl (cI, 10, .inl kf)), (bp, .inl (cI, 10, .inl pf)), (br, .inl (cI, 10, .inl rf))]) (va_runV (C := RX1) (As := [.ref b0]) (rest := []) ⟨hx, hb, hml, hown, hts⟩ (c_X1_findReflections l D cI cS s.heap.size a0 ap ah af as ag r g pe he b0 len att en n bk bp bl br kf pf rf (by first | assumption | omega)) (cwV 1 hts gX1_find_X1_findReflections rfl rfl rfl (by decide +kernel) ⟨Nat.le_of_ble_eq_true rfl, Nat.le_of_ble_eq_true rfl⟩) (ft_preRWV (ci := 1) (q0 := 0) hP hD hKK [0, 1, 2, 6, 7, 8, 9] rfl rfl rfl rfl rfl) rfl rfl hl.1 rfl (lv_room (Nat.le_of_ble_eq_true rfl)) dX1_find_2 ⟨Nat.le_of_ble_eq_true rfl, Nat.le_of_ble_eq_true rfl⟩) hP hD hS hA [0, 1, 2, 6, 7, 8, 9] [3, 4, 5] [3, 4, 5, 0, 1, 2, 6, 7, 8, 9] rfl rfl (by decide) (by decide) (by decide) rfl rfl (fun H locs hP hD hS => ?_)
  have hP : va_P D vwCl [(a0, .inr (1, [.ref ap, .ref ah, .int (nI (ftFlE len en kf pf rf pe he n).1), .ref af, .ref as, .ref ag, .int (nI g)])), (ap, .inl (cI, 11, .inl ((ftFlE len en kf pf rf pe he n).2.1))), (ah, .inl (cI, 11, .inl ((ftFlE len en kf pf rf pe he n).2.2))), (af, .inl (cI, 55, .inl f1)), (as, .inl (cI, 55, .inl f2)), (ag, .inl (cI, 55, .inl f3)), (b0, .inr (4, [.int len, .int att, .int en, .int (nI n), .ref bk, .ref bp, .ref bl, .ref br])), (bk, .inl (cI, 10, .inl kf)), (bp, .inl (cI, 10, .inl pf)), (br, .inl (cI, 10, .inl rf))] H := hP
  have hD : va_D A [(a0, .inr (1, [.ref ap, .ref ah, .int (nI (ftFlE len en kf pf rf pe he n).1), .ref af, .ref as, .ref ag, .int (nI g)])), (ap, .inl (cI, 11, .inl ((ftFlE len en kf pf rf pe he n).2.1))), (ah, .inl (cI, 11, .inl ((ftFlE len en kf pf rf pe he n).2.2))), (af, .inl (cI, 55, .inl f1)), (as, .inl (cI, 55, .inl f2)), (ag, .inl (cI, 55, .inl f3)), (b0, .inr (4, [.int len, .int att, .int en, .int (nI n), .ref bk, .ref bp, .ref bl, .ref br])), (bk, .inl (cI, 10, .inl kf)), (bp, .inl (cI, 10, .inl pf)), (br, .inl (cI, 10, .inl rf))] := hD
  obtain ⟨R9, hR9⟩ : ∃ R9, R9 = ftFlE len en kf pf rf pe he n := ⟨_, rfl⟩
  have hR10 : R9.1 ≤ n + 1 := by rw [hR9]; exact ftFlE_le len en kf pf rf pe he n
  rw [← hR9] at hP hD
  refine lv_aload_n hx hb dX1_find_5 rfl (lv_at hl 0 rfl) ?_
  refine lv_iconst (v := 0) hx hb dX1_find_6 (by decide) ?_
  refine va_put (D := D) (ci := 1) (v := .int 0) (ty := .int) (C := RX1) (T := TX1) (N := 7) hx hb hts (by decide +kernel) tyX1 tyX1_ok nmX1 hown hK hP hD hS 0 rfl rfl 6 (by decide) (hts (.fieldLink RX1 31 "FiberTrace$Echoes" "ghosts" "I") (by decide +kernel)) (fun _ h9 => h9) rfl (by decide +kernel) rfl rfl (Nat.le_of_ble_eq_true rfl) dX1_find_7 (fun H locs hP hD hS => ?_)
  have hP : va_P D vwCl [(a0, .inr (1, [.ref ap, .ref ah, .int (nI (R9).1), .ref af, .ref as, .ref ag, .int 0])), (ap, .inl (cI, 11, .inl ((R9).2.1))), (ah, .inl (cI, 11, .inl ((R9).2.2))), (af, .inl (cI, 55, .inl f1)), (as, .inl (cI, 55, .inl f2)), (ag, .inl (cI, 55, .inl f3)), (b0, .inr (4, [.int len, .int att, .int en, .int (nI n), .ref bk, .ref bp, .ref bl, .ref br])), (bk, .inl (cI, 10, .inl kf)), (bp, .inl (cI, 10, .inl pf)), (br, .inl (cI, 10, .inl rf))] H := hP
  have hD : va_D A [(a0, .inr (1, [.ref ap, .ref ah, .int (nI (R9).1), .ref af, .ref as, .ref ag, .int 0])), (ap, .inl (cI, 11, .inl ((R9).2.1))), (ah, .inl (cI, 11, .inl ((R9).2.2))), (af, .inl (cI, 55, .inl f1)), (as, .inl (cI, 55, .inl f2)), (ag, .inl (cI, 55, .inl f3)), (b0, .inr (4, [.int len, .int att, .int en, .int (nI n), .ref bk, .ref bp, .ref bl, .ref br])), (bk, .inl (cI, 10, .inl kf)), (bp, .inl (cI, 10, .inl pf)), (br, .inl (cI, 10, .inl rf))] := hD
  refine lv_iconst (v := 0) hx hb dX1_find_10 (by decide) ?_
  refine lv_istore_n (lv' := [(3, .int 0), (0, .ref a0), (1, .ref b0), (2, .int gl)]) hx hb dX1_find_11 rfl hl (by decide) rfl (fun ls hl => ?_)
  have lp12 : ∀ (n12 : Nat) (i : Nat) (q : ftGs) (x12_3 : Int32) (g12_a0_6 : Int32) (g12_af : Nat → Int32) (g12_as : Nat → Int32) (g12_ag : Nat → Int32), R9.1 - i < n12 → (i ≤ R9.1) → (q = ftGhOut R9.2.1 R9.2.2 gl R9.1 (0, f1, f2, f3) i) → x12_3 = nI i → g12_a0_6 = nI q.1 → g12_af = q.2.1 → g12_as = q.2.2.1 → g12_ag = q.2.2.2 → ∀ (H : Heap) (locs : List Loc), va_P D vwCl [(a0, .inr (1, [.ref ap, .ref ah, .int (nI (R9).1), .ref af, .ref as, .ref ag, .int g12_a0_6])), (ap, .inl (cI, 11, .inl ((R9).2.1))), (ah, .inl (cI, 11, .inl ((R9).2.2))), (af, .inl (cI, 55, .inl g12_af)), (as, .inl (cI, 55, .inl g12_as)), (ag, .inl (cI, 55, .inl g12_ag)), (b0, .inr (4, [.int len, .int att, .int en, .int (nI n), .ref bk, .ref bp, .ref bl, .ref br])), (bk, .inl (cI, 10, .inl kf)), (bp, .inl (cI, 10, .inl pf)), (br, .inl (cI, 10, .inl rf))] H → va_D A [(a0, .inr (1, [.ref ap, .ref ah, .int (nI (R9).1), .ref af, .ref as, .ref ag, .int g12_a0_6])), (ap, .inl (cI, 11, .inl ((R9).2.1))), (ah, .inl (cI, 11, .inl ((R9).2.2))), (af, .inl (cI, 55, .inl g12_af)), (as, .inl (cI, 55, .inl g12_as)), (ag, .inl (cI, 55, .inl g12_ag)), (b0, .inr (4, [.int len, .int att, .int en, .int (nI n), .ref bk, .ref bp, .ref bl, .ref br])), (bk, .inl (cI, 10, .inl kf)), (bp, .inl (cI, 10, .inl pf)), (br, .inl (cI, 10, .inl rf))] → va_S A s.heap H locs → ∀ ls : Array Slot, lv_has ls 6 [(0, .ref a0), (1, .ref b0), (2, .int gl), (3, .int x12_3)] → W p l e (headSpec wsX1_find { frames := 3, cells := 0, slots := 0, locals := 70 }).room s m ([.ref a0, .ref b0, .int gl] : List Value).toArray below meth c H locs 0 0 (MQ below (ftQv D [(a0, .inr (1, [.ref ap, .ref ah, .int (nI r), .ref af, .ref as, .ref ag, .int (nI g)])), (ap, .inl (cI, 11, .inl pe)), (ah, .inl (cI, 11, .inl he)), (af, .inl (cI, 55, .inl f1)), (as, .inl (cI, 55, .inl f2)), (ag, .inl (cI, 55, .inl f3)), (b0, .inr (4, [.int len, .int att, .int en, .int (nI n), .ref bk, .ref bp, .ref bl, .ref br])), (bk, .inl (cI, 10, .inl kf)), (bp, .inl (cI, 10, .inl pf)), (br, .inl (cI, 10, .inl rf))] [(a0, .inr (1, [.ref ap, .ref ah, .int (nI (ftFlE len en kf pf rf pe he n).1), .ref af, .ref as, .ref ag, .int (nI (ftGhs (ftFlE len en kf pf rf pe he n) gl f1 f2 f3).1)])), (ap, .inl (cI, 11, .inl ((ftFlE len en kf pf rf pe he n).2.1))), (ah, .inl (cI, 11, .inl ((ftFlE len en kf pf rf pe he n).2.2))), (af, .inl (cI, 55, .inl ((ftGhs (ftFlE len en kf pf rf pe he n) gl f1 f2 f3).2.1))), (as, .inl (cI, 55, .inl ((ftGhs (ftFlE len en kf pf rf pe he n) gl f1 f2 f3).2.2.1))), (ag, .inl (cI, 55, .inl ((ftGhs (ftFlE len en kf pf rf pe he n) gl f1 f2 f3).2.2.2))), (b0, .inr (4, [.int len, .int att, .int en, .int (nI n), .ref bk, .ref bp, .ref bl, .ref br])), (bk, .inl (cI, 10, .inl kf)), (bp, .inl (cI, 10, .inl pf)), (br, .inl (cI, 10, .inl rf))] s.heap.size) ([.ref a0, .ref b0, .int gl] : List Value).toArray s 0 0 A) (F0 m 12 ls []) := by
    intro n12
    induction n12 with
    | zero =>
      intro i q x12_3 g12_a0_6 g12_af g12_as g12_ag hm12
      exact absurd hm12 (Nat.not_lt_zero _)
    | succ n12 ih12 =>
      intro i q x12_3 g12_a0_6 g12_af g12_as g12_ag hm12 hir hq ex12_3 eg12_a0_6 eg12_af eg12_as eg12_ag H locs hP hD hS ls hl
      subst ex12_3
      subst eg12_a0_6
      subst eg12_af
      subst eg12_as
      subst eg12_ag
      refine lv_iload_n hx hb dX1_find_12 rfl (lv_at hl 3 rfl) ?_
      have hq55 : q.1 ≤ ftPairs R9.1 i := by rw [hq]; exact ftGhOut_le _ _ gl R9.1 (0, f1, f2, f3) rfl i
      refine lv_aload_n hx hb dX1_find_13 rfl (lv_at hl 0 rfl) ?_
      refine va_get (D := D) (ci := 1) (v := .int (nI (R9).1)) (C := RX1) (T := TX1) (N := 7) hx hb hts (by decide +kernel) hown hK hP 0 rfl rfl 2 (by decide) (hts (.fieldLink RX1 35 "FiberTrace$Echoes" "reflections" "I") (by decide +kernel)) (fun _ h9 => h9) rfl dX1_find_14 ?_
      refine lv_icmp_ge (tgt := 98) hx hb dX1_find_17 (by decide) (fun c17 => ?_) (fun c17 => ?_)
      · have c17n : ((R9).1) ≤ i := ft_leN (by omega) (by omega) c17
        have hw9 : ([(a0, .inr (1, [.ref ap, .ref ah, .int (nI (R9).1), .ref af, .ref as, .ref ag, .int (nI q.1)])), (ap, .inl (cI, 11, .inl ((R9).2.1))), (ah, .inl (cI, 11, .inl ((R9).2.2))), (af, .inl (cI, 55, .inl q.2.1)), (as, .inl (cI, 55, .inl q.2.2.1)), (ag, .inl (cI, 55, .inl q.2.2.2)), (b0, .inr (4, [.int len, .int att, .int en, .int (nI n), .ref bk, .ref bp, .ref bl, .ref br])), (bk, .inl (cI, 10, .inl kf)), (bp, .inl (cI, 10, .inl pf)), (br, .inl (cI, 10, .inl rf))] : va_W) = [(a0, .inr (1, [.ref ap, .ref ah, .int (nI (ftFlE len en kf pf rf pe he n).1), .ref af, .ref as, .ref ag, .int (nI (ftGhs (ftFlE len en kf pf rf pe he n) gl f1 f2 f3).1)])), (ap, .inl (cI, 11, .inl ((ftFlE len en kf pf rf pe he n).2.1))), (ah, .inl (cI, 11, .inl ((ftFlE len en kf pf rf pe he n).2.2))), (af, .inl (cI, 55, .inl ((ftGhs (ftFlE len en kf pf rf pe he n) gl f1 f2 f3).2.1))), (as, .inl (cI, 55, .inl ((ftGhs (ftFlE len en kf pf rf pe he n) gl f1 f2 f3).2.2.1))), (ag, .inl (cI, 55, .inl ((ftGhs (ftFlE len en kf pf rf pe he n) gl f1 f2 f3).2.2.2))), (b0, .inr (4, [.int len, .int att, .int en, .int (nI n), .ref bk, .ref bp, .ref bl, .ref br])), (bk, .inl (cI, 10, .inl kf)), (bp, .inl (cI, 10, .inl pf)), (br, .inl (cI, 10, .inl rf))] := by (have hi9 : i = R9.1 := by omega); rw [← hR9, ftGhs, hq, hi9]
        rw [hw9] at hP hD
        exact W.vret hx hb hr (fun t ht hW => ⟨⟨(), rfl, trivial, by rw [ht]; exact hP, by rw [hAe]; exact hD⟩, by rw [hAe]; exact hS.F ht⟩) hS.2.2 dX1_find_98
      · have c17n : i < ((R9).1) := ft_nleN (by omega) (by omega) c17
        refine lv_iload_n hx hb dX1_find_20 rfl (lv_at hl 3 rfl) ?_
        refine lv_iconst (v := 1) hx hb dX1_find_21 (by decide) ?_
        refine lv_iadd hx hb dX1_find_22 ?_
        refine ft_top (y := nI (i + 1)) (ft_addN i 1) ?_
        refine lv_istore (lv' := [(4, .int (nI (i + 1))), (0, .ref a0), (1, .ref b0), (2, .int gl), (3, .int (nI i))]) hx hb dX1_find_23 hl (by decide) rfl (fun ls hl => ?_)
        have lp25 : ∀ (n25 : Nat) (j : Nat) (q2 : ftGs) (x25_4 : Int32) (g25_a0_6 : Int32) (g25_af : Nat → Int32) (g25_as : Nat → Int32) (g25_ag : Nat → Int32), R9.1 - j < n25 → (i + 1 ≤ j) → (j ≤ R9.1) → (q2 = ftGhIn R9.2.1 R9.2.2 gl i q (j - (i + 1))) → x25_4 = nI j → g25_a0_6 = nI q2.1 → g25_af = q2.2.1 → g25_as = q2.2.2.1 → g25_ag = q2.2.2.2 → ∀ (H : Heap) (locs : List Loc), va_P D vwCl [(a0, .inr (1, [.ref ap, .ref ah, .int (nI (R9).1), .ref af, .ref as, .ref ag, .int g25_a0_6])), (ap, .inl (cI, 11, .inl ((R9).2.1))), (ah, .inl (cI, 11, .inl ((R9).2.2))), (af, .inl (cI, 55, .inl g25_af)), (as, .inl (cI, 55, .inl g25_as)), (ag, .inl (cI, 55, .inl g25_ag)), (b0, .inr (4, [.int len, .int att, .int en, .int (nI n), .ref bk, .ref bp, .ref bl, .ref br])), (bk, .inl (cI, 10, .inl kf)), (bp, .inl (cI, 10, .inl pf)), (br, .inl (cI, 10, .inl rf))] H → va_D A [(a0, .inr (1, [.ref ap, .ref ah, .int (nI (R9).1), .ref af, .ref as, .ref ag, .int g25_a0_6])), (ap, .inl (cI, 11, .inl ((R9).2.1))), (ah, .inl (cI, 11, .inl ((R9).2.2))), (af, .inl (cI, 55, .inl g25_af)), (as, .inl (cI, 55, .inl g25_as)), (ag, .inl (cI, 55, .inl g25_ag)), (b0, .inr (4, [.int len, .int att, .int en, .int (nI n), .ref bk, .ref bp, .ref bl, .ref br])), (bk, .inl (cI, 10, .inl kf)), (bp, .inl (cI, 10, .inl pf)), (br, .inl (cI, 10, .inl rf))] → va_S A s.heap H locs → ∀ ls : Array Slot, lv_has ls 6 [(0, .ref a0), (1, .ref b0), (2, .int gl), (3, .int (nI i)), (4, .int x25_4)] → W p l e (headSpec wsX1_find { frames := 3, cells := 0, slots := 0, locals := 70 }).room s m ([.ref a0, .ref b0, .int gl] : List Value).toArray below meth c H locs 0 0 (MQ below (ftQv D [(a0, .inr (1, [.ref ap, .ref ah, .int (nI r), .ref af, .ref as, .ref ag, .int (nI g)])), (ap, .inl (cI, 11, .inl pe)), (ah, .inl (cI, 11, .inl he)), (af, .inl (cI, 55, .inl f1)), (as, .inl (cI, 55, .inl f2)), (ag, .inl (cI, 55, .inl f3)), (b0, .inr (4, [.int len, .int att, .int en, .int (nI n), .ref bk, .ref bp, .ref bl, .ref br])), (bk, .inl (cI, 10, .inl kf)), (bp, .inl (cI, 10, .inl pf)), (br, .inl (cI, 10, .inl rf))] [(a0, .inr (1, [.ref ap, .ref ah, .int (nI (ftFlE len en kf pf rf pe he n).1), .ref af, .ref as, .ref ag, .int (nI (ftGhs (ftFlE len en kf pf rf pe he n) gl f1 f2 f3).1)])), (ap, .inl (cI, 11, .inl ((ftFlE len en kf pf rf pe he n).2.1))), (ah, .inl (cI, 11, .inl ((ftFlE len en kf pf rf pe he n).2.2))), (af, .inl (cI, 55, .inl ((ftGhs (ftFlE len en kf pf rf pe he n) gl f1 f2 f3).2.1))), (as, .inl (cI, 55, .inl ((ftGhs (ftFlE len en kf pf rf pe he n) gl f1 f2 f3).2.2.1))), (ag, .inl (cI, 55, .inl ((ftGhs (ftFlE len en kf pf rf pe he n) gl f1 f2 f3).2.2.2))), (b0, .inr (4, [.int len, .int att, .int en, .int (nI n), .ref bk, .ref bp, .ref bl, .ref br])), (bk, .inl (cI, 10, .inl kf)), (bp, .inl (cI, 10, .inl pf)), (br, .inl (cI, 10, .inl rf))] s.heap.size) ([.ref a0, .ref b0, .int gl] : List Value).toArray s 0 0 A) (F0 m 25 ls []) := by
          intro n25
          induction n25 with
          | zero =>
            intro j q2 x25_4 g25_a0_6 g25_af g25_as g25_ag hm25
            exact absurd hm25 (Nat.not_lt_zero _)
          | succ n25 ih25 =>
            intro j q2 x25_4 g25_a0_6 g25_af g25_as g25_ag hm25 hij hjr hq2 ex25_4 eg25_a0_6 eg25_af eg25_as eg25_ag H locs hP hD hS ls hl
            subst ex25_4
            subst eg25_a0_6
            subst eg25_af
            subst eg25_as
            subst eg25_ag
            have hb55 : q2.1 < 55 ∨ R9.1 ≤ j := ftGh_room hq55 (by rw [hq2]; exact ftGhIn_le _ _ gl i q (j - (i + 1))) hij hjr (by omega)
            refine lv_iload hx hb dX1_find_25 (lv_at hl 4 rfl) ?_
            refine lv_aload_n hx hb dX1_find_27 rfl (lv_at hl 0 rfl) ?_
            refine va_get (D := D) (ci := 1) (v := .int (nI (R9).1)) (C := RX1) (T := TX1) (N := 7) hx hb hts (by decide +kernel) hown hK hP 0 rfl rfl 2 (by decide) (hts (.fieldLink RX1 35 "FiberTrace$Echoes" "reflections" "I") (by decide +kernel)) (fun _ h9 => h9) rfl dX1_find_28 ?_
            refine lv_icmp_ge (tgt := 92) hx hb dX1_find_31 (by decide) (fun c31 => ?_) (fun c31 => ?_)
            · have c31n : ((R9).1) ≤ j := ft_leN (by omega) (by omega) c31
              refine lv_iinc (v := nI (i + 1)) (lv' := [(3, .int (nI (i + 1))), (0, .ref a0), (1, .ref b0), (2, .int gl), (4, .int (nI j))]) hx hb dX1_find_92 hl (k := 3) rfl (ft_inc i) (by decide) rfl (fun ls hl => ?_)
              refine lv_goto (tgt := 12) hx hb dX1_find_95 (by decide) ?_
              exact ih12 (i + 1) q2 (nI (i + 1)) (nI q2.1) q2.2.1 q2.2.2.1 q2.2.2.2 (by omega) (by omega) (by show q2 = ftGhIn R9.2.1 R9.2.2 gl i (ftGhOut R9.2.1 R9.2.2 gl R9.1 (0, f1, f2, f3) i) (R9.1 - (i + 1)); rw [hq2, ← hq, show j - (i + 1) = R9.1 - (i + 1) by omega]) (by first | rfl | assumption) (by first | rfl | assumption) (by first | rfl | assumption) (by first | rfl | assumption) (by first | rfl | assumption) _ _ hP hD hS ls (lv_sub hl [1, 2, 3, 0] rfl)
            · have c31n : j < ((R9).1) := ft_nleN (by omega) (by omega) c31
              refine lv_aload_n hx hb dX1_find_34 rfl (lv_at hl 0 rfl) ?_
              refine va_get (D := D) (ci := 1) (v := .ref ah) (C := RX1) (T := TX1) (N := 7) hx hb hts (by decide +kernel) hown hK hP 0 rfl rfl 1 (by decide) (hts (.fieldLink RX1 15 "FiberTrace$Echoes" "heights" "[I") (by decide +kernel)) (fun _ h9 => h9) rfl dX1_find_35 ?_
              refine lv_iload_n hx hb dX1_find_38 rfl (lv_at hl 3 rfl) ?_
              refine ft_csi (r := ftAt 11 ((R9).2.2) (nI i)) (va_runSN (As := [.ref ah, .int (nI i)]) (rest := []) ⟨hx, hb, hml, hown, hts⟩ (c_X10_at l D cI cS ah 11 ((R9).2.2) (nI i) (by first | assumption | omega)) ⟨va_cnB 2 hts gX1_find_X10_at_n38 rfl rfl rfl (hKK.2 _ (List.mem_of_getElem? (i := 14) rfl)) (hts (.initialized RX10) (by decide +kernel)) (by decide +kernel) ⟨Nat.le_of_ble_eq_true rfl, Nat.le_of_ble_eq_true rfl⟩, hts (.static yX10_at) (by decide +kernel), trivial⟩ (ft_preRO hP hKK [2] rfl) rfl rfl hl.1 rfl (lv_room (Nat.le_of_ble_eq_true rfl)) dX1_find_39 ⟨Nat.le_of_ble_eq_true rfl, Nat.le_of_ble_eq_true rfl⟩) ?_
              refine ft_top (y := ((R9).2.2) i) (ftAt_N (by omega) (by omega)) ?_
              refine lv_aload_n hx hb dX1_find_42 rfl (lv_at hl 0 rfl) ?_
              refine va_get (D := D) (ci := 1) (v := .ref ah) (C := RX1) (T := TX1) (N := 7) hx hb hts (by decide +kernel) hown hK hP 0 rfl rfl 1 (by decide) (hts (.fieldLink RX1 15 "FiberTrace$Echoes" "heights" "[I") (by decide +kernel)) (fun _ h9 => h9) rfl dX1_find_43 ?_
              refine lv_iload hx hb dX1_find_46 (lv_at hl 4 rfl) ?_
              refine ft_csi (r := ftAt 11 ((R9).2.2) (nI j)) (va_runSN (As := [.ref ah, .int (nI j)]) (rest := [.int (((R9).2.2) i)]) ⟨hx, hb, hml, hown, hts⟩ (c_X10_at l D cI cS ah 11 ((R9).2.2) (nI j) (by first | assumption | omega)) ⟨va_cnB 2 hts gX1_find_X10_at_n38 rfl rfl rfl (hKK.2 _ (List.mem_of_getElem? (i := 14) rfl)) (hts (.initialized RX10) (by decide +kernel)) (by decide +kernel) ⟨Nat.le_of_ble_eq_true rfl, Nat.le_of_ble_eq_true rfl⟩, hts (.static yX10_at) (by decide +kernel), trivial⟩ (ft_preRO hP hKK [2] rfl) rfl rfl hl.1 rfl (lv_room (Nat.le_of_ble_eq_true rfl)) dX1_find_48 ⟨Nat.le_of_ble_eq_true rfl, Nat.le_of_ble_eq_true rfl⟩) ?_
              refine ft_top (y := ((R9).2.2) j) (ftAt_N (by omega) (by omega)) ?_
              refine lv_iadd hx hb dX1_find_51 ?_
              refine lv_iconst (v := 2) hx hb dX1_find_52 (by decide) ?_
              refine lv_idiv hx hb dX1_find_53 (by decide) ?_
              refine lv_iload_n hx hb dX1_find_54 rfl (lv_at hl 2 rfl) ?_
              refine lv_isub hx hb dX1_find_55 ?_
              refine lv_istore (lv' := [(5, .int ((((((R9).2.2) i) + (((R9).2.2) j)) / 2) - gl)), (0, .ref a0), (1, .ref b0), (2, .int gl), (3, .int (nI i)), (4, .int (nI j))]) hx hb dX1_find_56 hl (by decide) rfl (fun ls hl => ?_)
              refine lv_iload hx hb dX1_find_58 (lv_at hl 0 rfl) ?_
              refine lv_if_le (tgt := 86) hx hb dX1_find_60 (by decide) (fun c60 => ?_) (fun c60 => ?_)
              · obtain ⟨q3, hq3⟩ : ∃ q3, q3 = ftGhStep R9.2.1 R9.2.2 gl i j q2 := ⟨_, rfl⟩
                have h3q : q3 = q2 := by rw [hq3]; exact if_neg (Int32.not_lt.mpr c60)
                refine lv_iinc (v := nI (j + 1)) (lv' := [(4, .int (nI (j + 1))), (5, .int ((((((R9).2.2) i) + (((R9).2.2) j)) / 2) - gl)), (0, .ref a0), (1, .ref b0), (2, .int gl), (3, .int (nI i))]) hx hb dX1_find_86 hl (k := 5) rfl (ft_inc j) (by decide) rfl (fun ls hl => ?_)
                refine lv_goto (tgt := 25) hx hb dX1_find_89 (by decide) ?_
                exact ih25 (j + 1) q3 (nI (j + 1)) (nI q2.1) q2.2.1 q2.2.2.1 q2.2.2.2 (by omega) (by omega) (by omega) (by rw [hq3, hq2, show j + 1 - (i + 1) = (j - (i + 1)) + 1 by omega, ftGhIn, show i + 1 + (j - (i + 1)) = j by omega]) (by first | rfl | assumption) (by first | (rw [h3q]; done) | (rw [h3q]; rfl)) (by first | (rw [h3q]; done) | (rw [h3q]; rfl)) (by first | (rw [h3q]; done) | (rw [h3q]; rfl)) (by first | (rw [h3q]; done) | (rw [h3q]; rfl)) _ _ hP hD hS ls (lv_sub hl [2, 3, 4, 5, 0] rfl)
              · obtain ⟨q3, hq3⟩ : ∃ q3, q3 = ftGhStep R9.2.1 R9.2.2 gl i j q2 := ⟨_, rfl⟩
                have h3q : q3 = ftGhIns q2 (R9.2.1 i) (R9.2.1 j) (ftGhH R9.2.2 gl i j) := by rw [hq3]; exact if_pos (Int32.not_le.mp c60)
                refine lv_aload_n hx hb dX1_find_63 rfl (lv_at hl 1 rfl) ?_
                refine lv_aload_n hx hb dX1_find_64 rfl (lv_at hl 1 rfl) ?_
                refine va_get (D := D) (ci := 1) (v := .ref ap) (C := RX1) (T := TX1) (N := 7) hx hb hts (by decide +kernel) hown hK hP 0 rfl rfl 0 (by decide) (hts (.fieldLink RX1 9 "FiberTrace$Echoes" "places" "[I") (by decide +kernel)) (fun _ h9 => h9) rfl dX1_find_65 ?_
                refine lv_iload_n hx hb dX1_find_68 rfl (lv_at hl 4 rfl) ?_
                refine ft_csi (r := ftAt 11 ((R9).2.1) (nI i)) (va_runSN (As := [.ref ap, .int (nI i)]) (rest := [.ref a0]) ⟨hx, hb, hml, hown, hts⟩ (c_X10_at l D cI cS ap 11 ((R9).2.1) (nI i) (by first | assumption | omega)) ⟨va_cnB 2 hts gX1_find_X10_at_n38 rfl rfl rfl (hKK.2 _ (List.mem_of_getElem? (i := 14) rfl)) (hts (.initialized RX10) (by decide +kernel)) (by decide +kernel) ⟨Nat.le_of_ble_eq_true rfl, Nat.le_of_ble_eq_true rfl⟩, hts (.static yX10_at) (by decide +kernel), trivial⟩ (ft_preRO hP hKK [1] rfl) rfl rfl hl.1 rfl (lv_room (Nat.le_of_ble_eq_true rfl)) dX1_find_69 ⟨Nat.le_of_ble_eq_true rfl, Nat.le_of_ble_eq_true rfl⟩) ?_
                refine ft_top (y := ((R9).2.1) i) (ftAt_N (by omega) (by omega)) ?_
                refine lv_aload_n hx hb dX1_find_72 rfl (lv_at hl 1 rfl) ?_
                refine va_get (D := D) (ci := 1) (v := .ref ap) (C := RX1) (T := TX1) (N := 7) hx hb hts (by decide +kernel) hown hK hP 0 rfl rfl 0 (by decide) (hts (.fieldLink RX1 9 "FiberTrace$Echoes" "places" "[I") (by decide +kernel)) (fun _ h9 => h9) rfl dX1_find_73 ?_
                refine lv_iload hx hb dX1_find_76 (lv_at hl 5 rfl) ?_
                refine ft_csi (r := ftAt 11 ((R9).2.1) (nI j)) (va_runSN (As := [.ref ap, .int (nI j)]) (rest := [.int (((R9).2.1) i), .ref a0]) ⟨hx, hb, hml, hown, hts⟩ (c_X10_at l D cI cS ap 11 ((R9).2.1) (nI j) (by first | assumption | omega)) ⟨va_cnB 2 hts gX1_find_X10_at_n38 rfl rfl rfl (hKK.2 _ (List.mem_of_getElem? (i := 14) rfl)) (hts (.initialized RX10) (by decide +kernel)) (by decide +kernel) ⟨Nat.le_of_ble_eq_true rfl, Nat.le_of_ble_eq_true rfl⟩, hts (.static yX10_at) (by decide +kernel), trivial⟩ (ft_preRO hP hKK [1] rfl) rfl rfl hl.1 rfl (lv_room (Nat.le_of_ble_eq_true rfl)) dX1_find_78 ⟨Nat.le_of_ble_eq_true rfl, Nat.le_of_ble_eq_true rfl⟩) ?_
                refine ft_top (y := ((R9).2.1) j) (ftAt_N (by omega) (by omega)) ?_
                refine lv_iload hx hb dX1_find_81 (lv_at hl 0 rfl) ?_
                refine ft_cv (wc := [(a0, .inr (1, [.ref ap, .ref ah, .int (nI (R9).1), .ref af, .ref as, .ref ag, .int (nI q2.1)])), (af, .inl (cI, 55, .inl q2.2.1)), (as, .inl (cI, 55, .inl q2.2.2.1)), (ag, .inl (cI, 55, .inl q2.2.2.2))]) (wr := [(ap, .inl (cI, 11, .inl ((R9).2.1))), (ah, .inl (cI, 11, .inl ((R9).2.2))), (b0, .inr (4, [.int len, .int att, .int en, .int (nI n), .ref bk, .ref bp, .ref bl, .ref br])), (bk, .inl (cI, 10, .inl kf)), (bp, .inl (cI, 10, .inl pf)), (br, .inl (cI, 10, .inl rf))]) (w1 := [(a0, .inr (1, [.ref ap, .ref ah, .int (nI ((R9).1)), .ref af, .ref as, .ref ag, .int (nI (ftGhIns (q2.1, q2.2.1, q2.2.2.1, q2.2.2.2) (((R9).2.1) i) (((R9).2.1) j) ((((((R9).2.2) i) + (((R9).2.2) j)) / 2) - gl)).1)])), (af, .inl (cI, 55, .inl ((ftGhIns (q2.1, q2.2.1, q2.2.2.1, q2.2.2.2) (((R9).2.1) i) (((R9).2.1) j) ((((((R9).2.2) i) + (((R9).2.2) j)) / 2) - gl)).2.1))), (as, .inl (cI, 55, .inl ((ftGhIns (q2.1, q2.2.1, q2.2.2.1, q2.2.2.2) (((R9).2.1) i) (((R9).2.1) j) ((((((R9).2.2) i) + (((R9).2.2) j)) / 2) - gl)).2.2.1))), (ag, .inl (cI, 55, .inl ((ftGhIns (q2.1, q2.2.1, q2.2.2.1, q2.2.2.2) (((R9).2.1) i) (((R9).2.1) j) ((((((R9).2.2) i) + (((R9).2.2) j)) / 2) - gl)).2.2.2)))]) (ws1 := [(a0, .inr (1, [.ref ap, .ref ah, .int (nI ((R9).1)), .ref af, .ref as, .ref ag, .int (nI (ftGhIns (q2.1, q2.2.1, q2.2.2.1, q2.2.2.2) (((R9).2.1) i) (((R9).2.1) j) ((((((R9).2.2) i) + (((R9).2.2) j)) / 2) - gl)).1)])), (ap, .inl (cI, 11, .inl ((R9).2.1))), (ah, .inl (cI, 11, .inl ((R9).2.2))), (af, .inl (cI, 55, .inl ((ftGhIns (q2.1, q2.2.1, q2.2.2.1, q2.2.2.2) (((R9).2.1) i) (((R9).2.1) j) ((((((R9).2.2) i) + (((R9).2.2) j)) / 2) - gl)).2.1))), (as, .inl (cI, 55, .inl ((ftGhIns (q2.1, q2.2.1, q2.2.2.1, q2.2.2.2) (((R9).2.1) i) (((R9).2.1) j) ((((((R9).2.2) i) + (((R9).2.2) j)) / 2) - gl)).2.2.1))), (ag, .inl (cI, 55, .inl ((ftGhIns (q2.1, q2.2.1, q2.2.2.1, q2.2.2.2) (((R9).2.1) i) (((R9).2.1) j) ((((((R9).2.2) i) + (((R9).2.2) j)) / 2) - gl)).2.2.2))), (b0, .inr (4, [.int len, .int att, .int en, .int (nI n), .ref bk, .ref bp, .ref bl, .ref br])), (bk, .inl (cI, 10, .inl kf)), (bp, .inl (cI, 10, .inl pf)), (br, .inl (cI, 10, .inl rf))]) (va_runV (C := RX1) (As := [.int (((R9).2.1) i), .int (((R9).2.1) j), .int ((((((R9).2.2) i) + (((R9).2.2) j)) / 2) - gl)]) (rest := []) ⟨hx, hb, hml, hown, hts⟩ (c_X1_addGhost l D cI cS H.size a0 ap ah af as ag ((R9).1) q2.1 q2.2.1 q2.2.2.1 q2.2.2.2 (((R9).2.1) i) (((R9).2.1) j) ((((((R9).2.2) i) + (((R9).2.2) j)) / 2) - gl) (by first | assumption | omega)) (cwV 3 hts gX1_find_X1_addGhost rfl rfl rfl (by decide +kernel) ⟨Nat.le_of_ble_eq_true rfl, Nat.le_of_ble_eq_true rfl⟩) (ft_preRWV (ci := 1) (q0 := 0) hP hD hKK [0, 3, 4, 5] rfl rfl rfl rfl rfl) rfl rfl hl.1 rfl (lv_room (Nat.le_of_ble_eq_true rfl)) dX1_find_83 ⟨Nat.le_of_ble_eq_true rfl, Nat.le_of_ble_eq_true rfl⟩) hP hD hS hA [0, 3, 4, 5] [1, 2, 6, 7, 8, 9] [6, 0, 1, 7, 8, 9, 2, 3, 4, 5] rfl rfl (by decide) (by decide) (by decide) rfl rfl (fun H locs hP hD hS => ?_)
                have hP : va_P D vwCl [(a0, .inr (1, [.ref ap, .ref ah, .int (nI ((R9).1)), .ref af, .ref as, .ref ag, .int (nI (ftGhIns (q2.1, q2.2.1, q2.2.2.1, q2.2.2.2) (((R9).2.1) i) (((R9).2.1) j) ((((((R9).2.2) i) + (((R9).2.2) j)) / 2) - gl)).1)])), (ap, .inl (cI, 11, .inl ((R9).2.1))), (ah, .inl (cI, 11, .inl ((R9).2.2))), (af, .inl (cI, 55, .inl ((ftGhIns (q2.1, q2.2.1, q2.2.2.1, q2.2.2.2) (((R9).2.1) i) (((R9).2.1) j) ((((((R9).2.2) i) + (((R9).2.2) j)) / 2) - gl)).2.1))), (as, .inl (cI, 55, .inl ((ftGhIns (q2.1, q2.2.1, q2.2.2.1, q2.2.2.2) (((R9).2.1) i) (((R9).2.1) j) ((((((R9).2.2) i) + (((R9).2.2) j)) / 2) - gl)).2.2.1))), (ag, .inl (cI, 55, .inl ((ftGhIns (q2.1, q2.2.1, q2.2.2.1, q2.2.2.2) (((R9).2.1) i) (((R9).2.1) j) ((((((R9).2.2) i) + (((R9).2.2) j)) / 2) - gl)).2.2.2))), (b0, .inr (4, [.int len, .int att, .int en, .int (nI n), .ref bk, .ref bp, .ref bl, .ref br])), (bk, .inl (cI, 10, .inl kf)), (bp, .inl (cI, 10, .inl pf)), (br, .inl (cI, 10, .inl rf))] H := hP
                have hD : va_D A [(a0, .inr (1, [.ref ap, .ref ah, .int (nI ((R9).1)), .ref af, .ref as, .ref ag, .int (nI (ftGhIns (q2.1, q2.2.1, q2.2.2.1, q2.2.2.2) (((R9).2.1) i) (((R9).2.1) j) ((((((R9).2.2) i) + (((R9).2.2) j)) / 2) - gl)).1)])), (ap, .inl (cI, 11, .inl ((R9).2.1))), (ah, .inl (cI, 11, .inl ((R9).2.2))), (af, .inl (cI, 55, .inl ((ftGhIns (q2.1, q2.2.1, q2.2.2.1, q2.2.2.2) (((R9).2.1) i) (((R9).2.1) j) ((((((R9).2.2) i) + (((R9).2.2) j)) / 2) - gl)).2.1))), (as, .inl (cI, 55, .inl ((ftGhIns (q2.1, q2.2.1, q2.2.2.1, q2.2.2.2) (((R9).2.1) i) (((R9).2.1) j) ((((((R9).2.2) i) + (((R9).2.2) j)) / 2) - gl)).2.2.1))), (ag, .inl (cI, 55, .inl ((ftGhIns (q2.1, q2.2.1, q2.2.2.1, q2.2.2.2) (((R9).2.1) i) (((R9).2.1) j) ((((((R9).2.2) i) + (((R9).2.2) j)) / 2) - gl)).2.2.2))), (b0, .inr (4, [.int len, .int att, .int en, .int (nI n), .ref bk, .ref bp, .ref bl, .ref br])), (bk, .inl (cI, 10, .inl kf)), (bp, .inl (cI, 10, .inl pf)), (br, .inl (cI, 10, .inl rf))] := hD
                refine lv_iinc (v := nI (j + 1)) (lv' := [(4, .int (nI (j + 1))), (5, .int ((((((R9).2.2) i) + (((R9).2.2) j)) / 2) - gl)), (0, .ref a0), (1, .ref b0), (2, .int gl), (3, .int (nI i))]) hx hb dX1_find_86 hl (k := 5) rfl (ft_inc j) (by decide) rfl (fun ls hl => ?_)
                refine lv_goto (tgt := 25) hx hb dX1_find_89 (by decide) ?_
                exact ih25 (j + 1) q3 (nI (j + 1)) (nI (ftGhIns (q2.1, q2.2.1, q2.2.2.1, q2.2.2.2) (((R9).2.1) i) (((R9).2.1) j) ((((((R9).2.2) i) + (((R9).2.2) j)) / 2) - gl)).1) ((ftGhIns (q2.1, q2.2.1, q2.2.2.1, q2.2.2.2) (((R9).2.1) i) (((R9).2.1) j) ((((((R9).2.2) i) + (((R9).2.2) j)) / 2) - gl)).2.1) ((ftGhIns (q2.1, q2.2.1, q2.2.2.1, q2.2.2.2) (((R9).2.1) i) (((R9).2.1) j) ((((((R9).2.2) i) + (((R9).2.2) j)) / 2) - gl)).2.2.1) ((ftGhIns (q2.1, q2.2.1, q2.2.2.1, q2.2.2.2) (((R9).2.1) i) (((R9).2.1) j) ((((((R9).2.2) i) + (((R9).2.2) j)) / 2) - gl)).2.2.2) (by omega) (by omega) (by omega) (by rw [hq3, hq2, show j + 1 - (i + 1) = (j - (i + 1)) + 1 by omega, ftGhIn, show i + 1 + (j - (i + 1)) = j by omega]) (by first | rfl | assumption) (by first | (rw [h3q]; done) | (rw [h3q]; rfl)) (by first | (rw [h3q]; done) | (rw [h3q]; rfl)) (by first | (rw [h3q]; done) | (rw [h3q]; rfl)) (by first | (rw [h3q]; done) | (rw [h3q]; rfl)) _ _ hP hD hS ls (lv_sub hl [2, 3, 4, 5, 0] rfl)
        exact lp25 _ (i + 1) q (nI (i + 1)) (nI q.1) q.2.1 q.2.2.1 q.2.2.2 (Nat.lt_succ_self _) (by omega) (by omega) (by rw [Nat.sub_self]; rfl) (by rfl) (by rfl) (by rfl) (by rfl) (by rfl) _ _ hP hD hS ls (lv_sub hl [1, 2, 3, 4, 0] rfl)
  exact lp12 _ 0 (0, f1, f2, f3) 0 0 f1 f2 f3 (Nat.lt_succ_self _) (by omega) (by rfl) (by rfl) (by rfl) (by rfl) (by rfl) (by rfl) _ _ hP hD hS ls (lv_sub hl [1, 2, 3, 0] rfl)
end
section
/-! traces: base, peaks, noise -/
theorem ft_subI {a b : Nat} (ha : a < 2 ^ 31) (hb : b < 2 ^ 31) : (nI a - nI b).toInt = (a : Int) - b := by
  rw [Int32.toInt_sub, nI_toInt ha, nI_toInt hb]
  exact Int.bmod_eq_of_le (by omega) (by omega)
def ftPk (pl hh w d x : Nat) : Nat := if x < pl then 0 else hh - d * (x + 1 - (pl + w))
def ftRaiseG (f : Nat → Int32) (pl hh w d X : Nat) : Nat → Int32 := fun t => if pl ≤ t ∧ t < X then ftMax (nI (ftPk pl hh w d t)) (f t) else f t
theorem ftMax_0 {y : Int32} (h : 0 ≤ y) : ftMax (nI 0) y = y := by
  unfold ftMax
  by_cases q : nI 0 < y
  · rw [if_pos q]
  · rw [if_neg q]
    exact Int32.le_antisymm h (Int32.not_lt.mp q)
theorem ftRaiseG_0 (f : Nat → Int32) (pl hh w d : Nat) : f = ftRaiseG f pl hh w d pl := funext fun t => (if_neg (by omega)).symm
theorem ftRaiseG_s {f : Nat → Int32} {pl hh w d X : Nat} {v : Int32} (h : pl ≤ X) (hv : v = ftMax (nI (ftPk pl hh w d X)) (f X)) : upd (ftRaiseG f pl hh w d X) X v = ftRaiseG f pl hh w d (X + 1) := by
  funext t
  unfold upd ftRaiseG
  by_cases q : t = X
  · subst q; rw [if_pos rfl, if_pos (by omega), hv]
  · rw [if_neg q]
    by_cases r : pl ≤ t ∧ t < X
    · rw [if_pos r, if_pos (by omega)]
    · rw [if_neg r, if_neg (by omega)]
theorem ftRaiseG_e {f : Nat → Int32} {pl hh w d X N : Nat} (hf : ∀ t, t < N → 0 ≤ f t) (hX : X ≤ N ∨ X = pl) (hz : ∀ t, X ≤ t → t < N → pl ≤ t → ftPk pl hh w d t = 0) : ftRaiseG f pl hh w d X = ftRaiseG f pl hh w d N := by
  funext t
  unfold ftRaiseG
  by_cases q : pl ≤ t ∧ t < X
  · by_cases r : t < N
    · rw [if_pos q, if_pos ⟨q.1, r⟩]
    · rw [if_pos q]; omega
  · rw [if_neg q]
    by_cases r : pl ≤ t ∧ t < N
    · rw [if_pos r, hz t (by omega) r.2 r.1, ftMax_0 (hf t r.2)]
    · rw [if_neg r]
theorem ftPk_in {pl hh w d x : Nat} (h1 : pl ≤ x) (h2 : x < pl + w) : ftPk pl hh w d x = hh := by
  unfold ftPk
  rw [if_neg (by omega), show x + 1 - (pl + w) = 0 by omega, Nat.mul_zero, Nat.sub_zero]
theorem ftPk_out {pl hh w d x : Nat} (h1 : pl + w ≤ x) : ftPk pl hh w d x = hh - d * (x - pl - w + 1) := by
  unfold ftPk
  rw [if_neg (by omega), show x + 1 - (pl + w) = x - pl - w + 1 by omega]
theorem ftMax_sub {a b : Nat} {y : Int32} (ha : a < 2 ^ 31) (hb : b < 2 ^ 31) (hy : 0 ≤ y) : ftMax (nI a - nI b) y = ftMax (nI (a - b)) y := by
  rcases Nat.le_total b a with q | q
  · rw [ft_subN q]
  · rw [show a - b = 0 by omega, ftMax_0 hy]
    unfold ftMax
    by_cases r : nI a - nI b < y
    · rw [if_pos r]
    · rw [if_neg r]
      refine Int32.le_antisymm ?_ (Int32.not_lt.mp r) |>.symm |> fun e => e ▸ rfl
      refine Int32.le_trans ?_ hy
      rw [Int32.le_iff_toInt_le, ft_subI ha hb]
      show (a : Int) - b ≤ 0
      omega
theorem ft_le0S {a b : Nat} (ha : a < 2 ^ 31) (hb : b < 2 ^ 31) (h : nI a - nI b ≤ 0) : a ≤ b := by
  rw [Int32.le_iff_toInt_le, ft_subI ha hb] at h
  have h2 : (a : Int) - b ≤ 0 := h
  omega
theorem ft_nI0 (k : Nat) (hk : k < 2 ^ 31) : 0 ≤ nI k := nI_pos' hk
def ftBase (ln : Nat) (kf pf lf : Nat → Int32) (att : Int32) (n : Nat) (w : Int32) (x : Nat) : Int32 := if nI x < nI ln then 50000 - ftFades kf pf lf att n x - ftSpr kf pf lf (nI x) w n else 5000
/-- the first X places of a row anew -/
def ftFill (g f : Nat → Int32) (X : Nat) : Nat → Int32 := fun t => if t < X then g t else f t
theorem ftFill_0 (g f : Nat → Int32) : f = ftFill g f 0 := funext fun t => (if_neg (Nat.not_lt_zero t)).symm
theorem ftFill_s {g f : Nat → Int32} {X : Nat} {v : Int32} (hv : v = g X) : upd (ftFill g f X) X v = ftFill g f (X + 1) := by
  funext t
  unfold upd ftFill
  by_cases q : t = X
  · subst q; rw [if_pos rfl, if_pos (by omega), hv]
  · rw [if_neg q]
    by_cases r : t < X
    · rw [if_pos r, if_pos (by omega)]
    · rw [if_neg r, if_neg (by omega)]
theorem ftFill_at {g f : Nat → Int32} {X t : Nat} (h : t < X) : ftFill g f X t = g t := if_pos h
/-- the raises of the first i reflections -/
def ftPks (PP HH : Nat → Nat) (w d N : Nat) (f : Nat → Int32) : Nat → (Nat → Int32)
  | 0 => f
  | i + 1 => ftRaiseG (ftPks PP HH w d N f i) (PP i) (HH i) w d N
theorem ftMax_pos {x y : Int32} (h : 0 ≤ y) : 0 ≤ ftMax x y := by
  unfold ftMax
  by_cases q : x < y
  · rw [if_pos q]; exact h
  · rw [if_neg q]; exact Int32.le_trans h (Int32.not_lt.mp q)
theorem ftPks_pos {PP HH : Nat → Nat} {w d N : Nat} {f : Nat → Int32} (hf : ∀ t, t < N → 0 ≤ f t) : ∀ i t, t < N → 0 ≤ ftPks PP HH w d N f i t := by
  intro i
  induction i with
  | zero => exact hf
  | succ i ih =>
    intro t ht
    show 0 ≤ ftRaiseG (ftPks PP HH w d N f i) (PP i) (HH i) w d N t
    unfold ftRaiseG
    split
    · exact ftMax_pos (ih t ht)
    · exact ih t ht
/-- the number ahead of the draws of the place x; the noise there -/
def ftNzs (a z : Int32) (pu : Nat) : Nat → Int32
  | 0 => z
  | x + 1 => ftNz a (ftNzs a z pu x) pu
def ftNoise (a z : Int32) (pu : Nat) (x : Nat) : Int32 := ftNx a (ftNzs a z pu x) pu
theorem ftFill_self {g f : Nat → Int32} {X : Nat} (h : ∀ x, x < X → f x = g x) : f = ftFill g f X := by
  funext t
  unfold ftFill
  by_cases q : t < X
  · rw [if_pos q, h t q]
  · rw [if_neg q]
noncomputable def ftIte (P : Prop) (x y : Int32) : Int32 := @ite _ P (Classical.propDecidable P) x y
theorem ftIte_t {P : Prop} {x y : Int32} (h : P) : ftIte P x y = x := by unfold ftIte; exact if_pos h
theorem ftIte_f {P : Prop} {x y : Int32} (h : ¬ P) : ftIte P x y = y := by unfold ftIte; exact if_neg h
/-- a trace's peaks, its samples -/
def ftPeaks (PP HH PG HG : Nat → Nat) (r g w d N : Nat) (fp : Nat → Int32) : Nat → Int32 := ftPks PG HG w d N (ftPks PP HH w d N (ftFill (fun _ => 0) fp N) r) g
def ftSamp (ln : Nat) (kf pf lf : Nat → Int32) (att : Int32) (n : Nat) (sf : Nat → Int32) (pk : Nat → Int32) (pu : Nat) (x : Nat) : Int32 := ftBase ln kf pf lf att n (sf 0) x + pk x + ftNoise (sf 3) (sf 5) pu x
set_option maxHeartbeats 4000000 in
set_option maxRecDepth 100000 in
theorem c_X9_raise (l : Launch) (D : va_G) (cI cS : ClassId) (sz : Nat) (a0 ab ap an as N : Nat) (d1 d2 d3 d4 : Int32) (fp : Nat → Int32) (pl hh w d : Nat) (hN : N ≤ 460) (hpl : pl ≤ 1000) (hhh : 0 < hh) (hh4 : hh ≤ 40000) (hw : w ≤ 20) (hd : d ≤ 5000) (hfp : ∀ t, t < N → 0 ≤ fp t) : Met l yX9_raise wsX9_raise ({ frames := 1, cells := 0, slots := 0, locals := 30 }) (ftRW D cI cS [.ref a0, .int (nI pl), .int (nI hh), .int (nI w), .int (nI d)] [(a0, .inr (9, [.ref ab, .ref ap, .ref an, .ref as, .int (nI N), .int d1, .int d2, .int d3, .int d4])), (ap, .inl (cI, 460, .inl fp))] sz) (ftQv D [(a0, .inr (9, [.ref ab, .ref ap, .ref an, .ref as, .int (nI N), .int d1, .int d2, .int d3, .int d4])), (ap, .inl (cI, 460, .inl fp))] [(a0, .inr (9, [.ref ab, .ref ap, .ref an, .ref as, .int (nI N), .int d1, .int d2, .int d3, .int d4])), (ap, .inl (cI, 460, .inl (ftRaiseG fp pl hh w d N)))] sz) 0 0 (va_A [(a0, .inr (9, [.ref ab, .ref ap, .ref an, .ref as, .int (nI N), .int d1, .int d2, .int d3, .int d4])), (ap, .inl (cI, 460, .inl fp))] sz) := by
  refine Met.ofW (cc := cX9_raise) (maxL := 7) (ret := none) (by decide) rfl ?_
  intro p e s m args below meth c s₁ B hml hv
  obtain ⟨rfl, hsz, hP, hKK, hD0⟩ := hv
  have hK := hKK.1
  have hx := B.exec
  have hb := B.bytes
  have hr := B.returns
  have hts := atoms_spec (ws := wsX9_raise) B.pre
  have hown : s.vm.findClass RX9 = some m.cls := findClass_of_methodNamed B.named
  have hlocks := B.notSynchronized
  subst hsz
  have hD := hD0.self (sz := s.heap.size)
  generalize hAe : va_A [(a0, .inr (9, [.ref ab, .ref ap, .ref an, .ref as, .int (nI N), .int d1, .int d2, .int d3, .int d4])), (ap, .inl (cI, 460, .inl fp))] s.heap.size = A at hD ⊢
  have hA : ∀ q : Nat, s.heap.size ≤ q → A q := fun q h => by rw [← hAe]; exact Or.inr h
  have hS : va_S A s.heap s.heap [] := va_S.rf
  have hD : va_D A [(a0, .inr (9, [.ref ab, .ref ap, .ref an, .ref as, .int (nI N), .int d1, .int d2, .int d3, .int d4])), (ap, .inl (cI, 460, .inl fp))] := hD
  have hP : va_P D vwCl [(a0, .inr (9, [.ref ab, .ref ap, .ref an, .ref as, .int (nI N), .int d1, .int d2, .int d3, .int d4])), (ap, .inl (cI, 460, .inl fp))] s.heap := hP
  have hl := lv_entry ([.ref a0, .int (nI pl), .int (nI hh), .int (nI w), .int (nI d)]) (n := 7) (Nat.le_of_ble_eq_true rfl)
  rw [lg_entry_eq]
  generalize (lg_sl ([.ref a0, .int (nI pl), .int (nI hh), .int (nI w), .int (nI d)]) ++ List.replicate (7 - (lg_sl ([.ref a0, .int (nI pl), .int (nI hh), .int (nI w), .int (nI d)])).length) Slot.unset).toArray = ls at hl ⊢
  have hl : lv_has ls 7 [(0, .ref a0), (1, .int (nI pl)), (2, .int (nI hh)), (3, .int (nI w)), (4, .int (nI d))] := hl
  refine lv_iload_n hx hb dX9_raise_0 rfl (lv_at hl 2 rfl) ?_
  refine lv_istore (lv' := [(5, .int (nI hh)), (0, .ref a0), (1, .int (nI pl)), (2, .int (nI hh)), (3, .int (nI w)), (4, .int (nI d))]) hx hb dX9_raise_1 hl (by decide) rfl (fun ls hl => ?_)
  refine lv_iload_n hx hb dX9_raise_3 rfl (lv_at hl 2 rfl) ?_
  refine lv_istore (lv' := [(6, .int (nI pl)), (5, .int (nI hh)), (0, .ref a0), (1, .int (nI pl)), (2, .int (nI hh)), (3, .int (nI w)), (4, .int (nI d))]) hx hb dX9_raise_4 hl (by decide) rfl (fun ls hl => ?_)
  have lp6 : ∀ (n6 : Nat) (x : Nat) (le : Int32) (x6_5 : Int32) (x6_6 : Int32) (g6_ap : Nat → Int32), 1001 - x < n6 → (pl ≤ x) → (x ≤ N ∨ x = pl) → (¬ 0 < le → ∀ t, x ≤ t → t < N → pl ≤ t → ftPk pl hh w d t = 0) → x6_5 = le → x6_6 = nI x → g6_ap = ftRaiseG fp pl hh w d x → ∀ (H : Heap) (locs : List Loc), va_P D vwCl [(a0, .inr (9, [.ref ab, .ref ap, .ref an, .ref as, .int (nI N), .int d1, .int d2, .int d3, .int d4])), (ap, .inl (cI, 460, .inl g6_ap))] H → va_D A [(a0, .inr (9, [.ref ab, .ref ap, .ref an, .ref as, .int (nI N), .int d1, .int d2, .int d3, .int d4])), (ap, .inl (cI, 460, .inl g6_ap))] → va_S A s.heap H locs → ∀ ls : Array Slot, lv_has ls 7 [(0, .ref a0), (1, .int (nI pl)), (2, .int (nI hh)), (3, .int (nI w)), (4, .int (nI d)), (5, .int x6_5), (6, .int x6_6)] → W p l e (headSpec wsX9_raise { frames := 1, cells := 0, slots := 0, locals := 30 }).room s m ([.ref a0, .int (nI pl), .int (nI hh), .int (nI w), .int (nI d)] : List Value).toArray below meth c H locs 0 0 (MQ below (ftQv D [(a0, .inr (9, [.ref ab, .ref ap, .ref an, .ref as, .int (nI N), .int d1, .int d2, .int d3, .int d4])), (ap, .inl (cI, 460, .inl fp))] [(a0, .inr (9, [.ref ab, .ref ap, .ref an, .ref as, .int (nI N), .int d1, .int d2, .int d3, .int d4])), (ap, .inl (cI, 460, .inl (ftRaiseG fp pl hh w d N)))] s.heap.size) ([.ref a0, .int (nI pl), .int (nI hh), .int (nI w), .int (nI d)] : List Value).toArray s 0 0 A) (F0 m 6 ls []) := by
    intro n6
    induction n6 with
    | zero =>
      intro x le x6_5 x6_6 g6_ap hm6
      exact absurd hm6 (Nat.not_lt_zero _)
    | succ n6 ih6 =>
      intro x le x6_5 x6_6 g6_ap hm6 hpx hxN hz ex6_5 ex6_6 eg6_ap H locs hP hD hS ls hl
      replace ex6_5 := ex6_5.symm; subst ex6_5
      subst ex6_6
      refine lv_iload hx hb dX9_raise_6 (lv_at hl 6 rfl) ?_
      refine lv_aload_n hx hb dX9_raise_8 rfl (lv_at hl 0 rfl) ?_
      refine va_get (D := D) (ci := 9) (v := .int (nI N)) (C := RX9) (T := TX9) (N := 9) hx hb hts (by decide +kernel) hown hK hP 0 rfl rfl 4 (by decide) (hts (.fieldLink RX9 30 "FiberTrace$Trace" "size" "I") (by decide +kernel)) (fun _ h9 => h9) rfl dX9_raise_9 ?_
      refine lv_icmp_ge (tgt := 76) hx hb dX9_raise_12 (by decide) (fun c12 => ?_) (fun c12 => ?_)
      · have c12n : N ≤ x := ft_leN (by omega) (by omega) c12
        have hw9 : ([(a0, .inr (9, [.ref ab, .ref ap, .ref an, .ref as, .int (nI N), .int d1, .int d2, .int d3, .int d4])), (ap, .inl (cI, 460, .inl g6_ap))] : va_W) = [(a0, .inr (9, [.ref ab, .ref ap, .ref an, .ref as, .int (nI N), .int d1, .int d2, .int d3, .int d4])), (ap, .inl (cI, 460, .inl (ftRaiseG fp pl hh w d N)))] := by first | rw [eg6_ap, ftRaiseG_e hfp hxN (fun t h1 h2 h3 => by omega)] | rw [eg6_ap, ftRaiseG_e hfp hxN (hz (Int32.not_lt.mpr c17))]
        rw [hw9] at hP hD
        exact W.vret hx hb hr (fun t ht hW => ⟨⟨(), rfl, trivial, by rw [ht]; exact hP, by rw [hAe]; exact hD⟩, by rw [hAe]; exact hS.F ht⟩) hS.2.2 dX9_raise_76
      · have c12n : x < N := ft_nleN (by omega) (by omega) c12
        refine lv_iload hx hb dX9_raise_15 (lv_at hl 5 rfl) ?_
        refine lv_if_le (tgt := 76) hx hb dX9_raise_17 (by decide) (fun c17 => ?_) (fun c17 => ?_)
        · have hw9 : ([(a0, .inr (9, [.ref ab, .ref ap, .ref an, .ref as, .int (nI N), .int d1, .int d2, .int d3, .int d4])), (ap, .inl (cI, 460, .inl g6_ap))] : va_W) = [(a0, .inr (9, [.ref ab, .ref ap, .ref an, .ref as, .int (nI N), .int d1, .int d2, .int d3, .int d4])), (ap, .inl (cI, 460, .inl (ftRaiseG fp pl hh w d N)))] := by first | rw [eg6_ap, ftRaiseG_e hfp hxN (fun t h1 h2 h3 => by omega)] | rw [eg6_ap, ftRaiseG_e hfp hxN (hz (Int32.not_lt.mpr c17))]
          rw [hw9] at hP hD
          exact W.vret hx hb hr (fun t ht hW => ⟨⟨(), rfl, trivial, by rw [ht]; exact hP, by rw [hAe]; exact hD⟩, by rw [hAe]; exact hS.F ht⟩) hS.2.2 dX9_raise_76
        · refine lv_iload hx hb dX9_raise_20 (lv_at hl 6 rfl) ?_
          refine lv_iload_n hx hb dX9_raise_22 rfl (lv_at hl 1 rfl) ?_
          refine lv_iload_n hx hb dX9_raise_23 rfl (lv_at hl 3 rfl) ?_
          refine lv_iadd hx hb dX9_raise_24 ?_
          refine ft_top (y := nI (pl + w)) (ft_addN pl w) ?_
          refine lv_icmp_ge (tgt := 32) hx hb dX9_raise_25 (by decide) (fun c25 => ?_) (fun c25 => ?_)
          · have c25n : (pl + w) ≤ x := ft_leN (by omega) (by omega) c25
            have hm1 : d * ((x - pl) - w + 1) ≤ 5000 * 461 := Nat.mul_le_mul hd (by omega)
            have hm2 : ∀ t, x + 1 ≤ t → d * ((x - pl) - w + 1) ≤ d * (t + 1 - (pl + w)) := fun t ht => Nat.mul_le_mul_left d (by omega)
            refine lv_iload_n hx hb dX9_raise_32 rfl (lv_at hl 2 rfl) ?_
            refine lv_iload hx hb dX9_raise_33 (lv_at hl 4 rfl) ?_
            refine lv_iload hx hb dX9_raise_35 (lv_at hl 6 rfl) ?_
            refine lv_iload_n hx hb dX9_raise_37 rfl (lv_at hl 1 rfl) ?_
            refine lv_isub hx hb dX9_raise_38 ?_
            refine ft_top (y := nI (x - pl)) (ft_subN (a := x) (b := pl) (by omega)) ?_
            refine lv_iload_n hx hb dX9_raise_39 rfl (lv_at hl 3 rfl) ?_
            refine lv_isub hx hb dX9_raise_40 ?_
            refine ft_top (y := nI ((x - pl) - w)) (ft_subN (a := x - pl) (b := w) (by omega)) ?_
            refine lv_iconst (v := 1) hx hb dX9_raise_41 (by decide) ?_
            refine lv_iadd hx hb dX9_raise_42 ?_
            refine ft_top (y := nI (((x - pl) - w) + 1)) (ft_addN ((x - pl) - w) 1) ?_
            refine lv_imul hx hb dX9_raise_43 ?_
            refine ft_top (y := nI (d * (((x - pl) - w) + 1))) (ft_mulN d (((x - pl) - w) + 1)) ?_
            refine lv_isub hx hb dX9_raise_44 ?_
            refine lv_istore (lv' := [(5, .int ((nI hh) - (nI (d * (((x - pl) - w) + 1))))), (0, .ref a0), (1, .int (nI pl)), (2, .int (nI hh)), (3, .int (nI w)), (4, .int (nI d)), (6, .int (nI x))]) hx hb dX9_raise_45 hl (by decide) rfl (fun ls hl => ?_)
            refine lv_aload_n hx hb dX9_raise_47 rfl (lv_at hl 1 rfl) ?_
            refine va_get (D := D) (ci := 9) (v := .ref ap) (C := RX9) (T := TX9) (N := 9) hx hb hts (by decide +kernel) hown hK hP 0 rfl rfl 1 (by decide) (hts (.fieldLink RX9 15 "FiberTrace$Trace" "peaks" "[I") (by decide +kernel)) (fun _ h9 => h9) rfl dX9_raise_48 ?_
            refine lv_iload hx hb dX9_raise_51 (lv_at hl 6 rfl) ?_
            refine lv_iload hx hb dX9_raise_53 (lv_at hl 0 rfl) ?_
            refine lv_aload_n hx hb dX9_raise_55 rfl (lv_at hl 1 rfl) ?_
            refine va_get (D := D) (ci := 9) (v := .ref ap) (C := RX9) (T := TX9) (N := 9) hx hb hts (by decide +kernel) hown hK hP 0 rfl rfl 1 (by decide) (hts (.fieldLink RX9 15 "FiberTrace$Trace" "peaks" "[I") (by decide +kernel)) (fun _ h9 => h9) rfl dX9_raise_56 ?_
            refine lv_iload hx hb dX9_raise_59 (lv_at hl 6 rfl) ?_
            refine ft_csi (r := ftAt 460 g6_ap (nI x)) (va_runSN (As := [.ref ap, .int (nI x)]) (rest := [.int ((nI hh) - (nI (d * (((x - pl) - w) + 1)))), .int (nI x), .ref ap]) ⟨hx, hb, hml, hown, hts⟩ (c_X10_at l D cI cS ap 460 g6_ap (nI x) (by first | assumption | omega)) ⟨va_cnB 2 hts gX9_raise_X10_at_n33 rfl rfl rfl (hKK.2 _ (List.mem_of_getElem? (i := 17) rfl)) (hts (.initialized RX10) (by decide +kernel)) (by decide +kernel) ⟨Nat.le_of_ble_eq_true rfl, Nat.le_of_ble_eq_true rfl⟩, hts (.static yX10_at) (by decide +kernel), trivial⟩ (ft_preRO hP hKK [1] rfl) rfl rfl hl.1 rfl (lv_room (Nat.le_of_ble_eq_true rfl)) dX9_raise_61 ⟨Nat.le_of_ble_eq_true rfl, Nat.le_of_ble_eq_true rfl⟩) ?_
            refine ft_top (y := g6_ap x) (ftAt_N (by omega) (by omega)) ?_
            refine va_mmax hx hb (hml.trans hl.1.symm) hown (hts (.methodLink RX9 90 Lib.Math.max.name) (by decide +kernel)) (hts (.static Lib.Math.max.name) (by decide +kernel)) (hts (.initialized "java/lang/Math") (by decide +kernel)) (hts (.code Lib.Math.max.name Lib.Math.max.code 2 (some .int)) (by decide +kernel)) (Nat.le_of_ble_eq_true rfl) (Nat.le_of_ble_eq_true rfl) (Nat.le_of_ble_eq_true rfl) (Nat.le_of_ble_eq_true rfl) dX9_raise_64 ?_
            refine ft_top (y := ftMax ((nI hh) - (nI (d * (((x - pl) - w) + 1)))) (g6_ap x)) rfl ?_
            refine ft_cv (wc := [(ap, .inl (cI, 460, .inl g6_ap))]) (wr := [(a0, .inr (9, [.ref ab, .ref ap, .ref an, .ref as, .int (nI N), .int d1, .int d2, .int d3, .int d4]))]) (w1 := [(ap, .inl (cI, 460, .inl (ftPut 460 g6_ap (nI x) (ftMax ((nI hh) - (nI (d * (((x - pl) - w) + 1)))) (g6_ap x)))))]) (ws1 := [(a0, .inr (9, [.ref ab, .ref ap, .ref an, .ref as, .int (nI N), .int d1, .int d2, .int d3, .int d4])), (ap, .inl (cI, 460, .inl (ftPut 460 g6_ap (nI x) (ftMax ((nI hh) - (nI (d * (((x - pl) - w) + 1)))) (g6_ap x)))))]) (va_runSN (As := [.ref ap, .int (nI x), .int (ftMax ((nI hh) - (nI (d * (((x - pl) - w) + 1)))) (g6_ap x))]) (rest := []) ⟨hx, hb, hml, hown, hts⟩ (c_X10_put l D cI cS H.size ap 460 g6_ap (nI x) (ftMax ((nI hh) - (nI (d * (((x - pl) - w) + 1)))) (g6_ap x)) (by first | assumption | omega)) ⟨va_cnB 3 hts gX9_raise_X10_put_n53 rfl rfl rfl (hKK.2 _ (List.mem_of_getElem? (i := 19) rfl)) (hts (.initialized RX10) (by decide +kernel)) (by decide +kernel) ⟨Nat.le_of_ble_eq_true rfl, Nat.le_of_ble_eq_true rfl⟩, hts (.static yX10_put) (by decide +kernel), trivial⟩ (ft_preRW hP hD hKK [1] rfl rfl rfl) rfl rfl hl.1 rfl (lv_room (Nat.le_of_ble_eq_true rfl)) dX9_raise_67 ⟨Nat.le_of_ble_eq_true rfl, Nat.le_of_ble_eq_true rfl⟩) hP hD hS hA [1] [0] [0, 1] rfl rfl (by decide) (by decide) (by decide) rfl rfl (fun H locs hP hD hS => ?_)
            rw [ftPut_N (k := x) (by omega) (by omega)] at hP hD
            have hP : va_P D vwCl [(a0, .inr (9, [.ref ab, .ref ap, .ref an, .ref as, .int (nI N), .int d1, .int d2, .int d3, .int d4])), (ap, .inl (cI, 460, .inl (upd g6_ap x (ftMax ((nI hh) - (nI (d * (((x - pl) - w) + 1)))) (g6_ap x)))))] H := hP
            have hD : va_D A [(a0, .inr (9, [.ref ab, .ref ap, .ref an, .ref as, .int (nI N), .int d1, .int d2, .int d3, .int d4])), (ap, .inl (cI, 460, .inl (upd g6_ap x (ftMax ((nI hh) - (nI (d * (((x - pl) - w) + 1)))) (g6_ap x)))))] := hD
            refine lv_iinc (v := nI (x + 1)) (lv' := [(6, .int (nI (x + 1))), (5, .int ((nI hh) - (nI (d * (((x - pl) - w) + 1))))), (0, .ref a0), (1, .int (nI pl)), (2, .int (nI hh)), (3, .int (nI w)), (4, .int (nI d))]) hx hb dX9_raise_70 hl (k := 6) rfl (ft_inc x) (by decide) rfl (fun ls hl => ?_)
            refine lv_goto (tgt := 6) hx hb dX9_raise_73 (by decide) ?_
            exact ih6 (x + 1) ((nI hh) - (nI (d * (((x - pl) - w) + 1)))) ((nI hh) - (nI (d * (((x - pl) - w) + 1)))) (nI (x + 1)) (upd g6_ap x (ftMax ((nI hh) - (nI (d * (((x - pl) - w) + 1)))) (g6_ap x))) (by omega) (by omega) (by omega) (by first | (intro h t h1 h2 h3; exact absurd (show (0 : Int32) < nI hh by rw [← nI_0]; exact nI_lt hhh (by omega)) h) | (intro h t h1 h2 h3; have h4 := ft_le0S (by omega) (by omega) (Int32.not_lt.mp h); have h5 := hm2 t h1; unfold ftPk; rw [if_neg (by omega)]; omega)) (by first | rfl | assumption) (by first | rfl | assumption) (by rw [eg6_ap]; refine ftRaiseG_s hpx ?_; rw [show ftRaiseG fp pl hh w d x x = fp x from if_neg (by omega)]; first | rw [ftPk_in hpx c25n] | rw [ftPk_out c25n, ftMax_sub (by omega) (by omega) (hfp x c12n)]) _ _ hP hD hS ls (lv_sub hl [2, 3, 4, 5, 6, 1, 0] rfl)
          · have c25n : x < (pl + w) := ft_nleN (by omega) (by omega) c25
            refine lv_iload_n hx hb dX9_raise_28 rfl (lv_at hl 2 rfl) ?_
            refine lv_goto (tgt := 45) hx hb dX9_raise_29 (by decide) ?_
            refine lv_istore (lv' := [(5, .int (nI hh)), (0, .ref a0), (1, .int (nI pl)), (2, .int (nI hh)), (3, .int (nI w)), (4, .int (nI d)), (6, .int (nI x))]) hx hb dX9_raise_45 hl (by decide) rfl (fun ls hl => ?_)
            refine lv_aload_n hx hb dX9_raise_47 rfl (lv_at hl 1 rfl) ?_
            refine va_get (D := D) (ci := 9) (v := .ref ap) (C := RX9) (T := TX9) (N := 9) hx hb hts (by decide +kernel) hown hK hP 0 rfl rfl 1 (by decide) (hts (.fieldLink RX9 15 "FiberTrace$Trace" "peaks" "[I") (by decide +kernel)) (fun _ h9 => h9) rfl dX9_raise_48 ?_
            refine lv_iload hx hb dX9_raise_51 (lv_at hl 6 rfl) ?_
            refine lv_iload hx hb dX9_raise_53 (lv_at hl 0 rfl) ?_
            refine lv_aload_n hx hb dX9_raise_55 rfl (lv_at hl 1 rfl) ?_
            refine va_get (D := D) (ci := 9) (v := .ref ap) (C := RX9) (T := TX9) (N := 9) hx hb hts (by decide +kernel) hown hK hP 0 rfl rfl 1 (by decide) (hts (.fieldLink RX9 15 "FiberTrace$Trace" "peaks" "[I") (by decide +kernel)) (fun _ h9 => h9) rfl dX9_raise_56 ?_
            refine lv_iload hx hb dX9_raise_59 (lv_at hl 6 rfl) ?_
            refine ft_csi (r := ftAt 460 g6_ap (nI x)) (va_runSN (As := [.ref ap, .int (nI x)]) (rest := [.int (nI hh), .int (nI x), .ref ap]) ⟨hx, hb, hml, hown, hts⟩ (c_X10_at l D cI cS ap 460 g6_ap (nI x) (by first | assumption | omega)) ⟨va_cnB 2 hts gX9_raise_X10_at_n33 rfl rfl rfl (hKK.2 _ (List.mem_of_getElem? (i := 17) rfl)) (hts (.initialized RX10) (by decide +kernel)) (by decide +kernel) ⟨Nat.le_of_ble_eq_true rfl, Nat.le_of_ble_eq_true rfl⟩, hts (.static yX10_at) (by decide +kernel), trivial⟩ (ft_preRO hP hKK [1] rfl) rfl rfl hl.1 rfl (lv_room (Nat.le_of_ble_eq_true rfl)) dX9_raise_61 ⟨Nat.le_of_ble_eq_true rfl, Nat.le_of_ble_eq_true rfl⟩) ?_
            refine ft_top (y := g6_ap x) (ftAt_N (by omega) (by omega)) ?_
            refine va_mmax hx hb (hml.trans hl.1.symm) hown (hts (.methodLink RX9 90 Lib.Math.max.name) (by decide +kernel)) (hts (.static Lib.Math.max.name) (by decide +kernel)) (hts (.initialized "java/lang/Math") (by decide +kernel)) (hts (.code Lib.Math.max.name Lib.Math.max.code 2 (some .int)) (by decide +kernel)) (Nat.le_of_ble_eq_true rfl) (Nat.le_of_ble_eq_true rfl) (Nat.le_of_ble_eq_true rfl) (Nat.le_of_ble_eq_true rfl) dX9_raise_64 ?_
            refine ft_top (y := ftMax (nI hh) (g6_ap x)) rfl ?_
            refine ft_cv (wc := [(ap, .inl (cI, 460, .inl g6_ap))]) (wr := [(a0, .inr (9, [.ref ab, .ref ap, .ref an, .ref as, .int (nI N), .int d1, .int d2, .int d3, .int d4]))]) (w1 := [(ap, .inl (cI, 460, .inl (ftPut 460 g6_ap (nI x) (ftMax (nI hh) (g6_ap x)))))]) (ws1 := [(a0, .inr (9, [.ref ab, .ref ap, .ref an, .ref as, .int (nI N), .int d1, .int d2, .int d3, .int d4])), (ap, .inl (cI, 460, .inl (ftPut 460 g6_ap (nI x) (ftMax (nI hh) (g6_ap x)))))]) (va_runSN (As := [.ref ap, .int (nI x), .int (ftMax (nI hh) (g6_ap x))]) (rest := []) ⟨hx, hb, hml, hown, hts⟩ (c_X10_put l D cI cS H.size ap 460 g6_ap (nI x) (ftMax (nI hh) (g6_ap x)) (by first | assumption | omega)) ⟨va_cnB 3 hts gX9_raise_X10_put_n53 rfl rfl rfl (hKK.2 _ (List.mem_of_getElem? (i := 19) rfl)) (hts (.initialized RX10) (by decide +kernel)) (by decide +kernel) ⟨Nat.le_of_ble_eq_true rfl, Nat.le_of_ble_eq_true rfl⟩, hts (.static yX10_put) (by decide +kernel), trivial⟩ (ft_preRW hP hD hKK [1] rfl rfl rfl) rfl rfl hl.1 rfl (lv_room (Nat.le_of_ble_eq_true rfl)) dX9_raise_67 ⟨Nat.le_of_ble_eq_true rfl, Nat.le_of_ble_eq_true rfl⟩) hP hD hS hA [1] [0] [0, 1] rfl rfl (by decide) (by decide) (by decide) rfl rfl (fun H locs hP hD hS => ?_)
            rw [ftPut_N (k := x) (by omega) (by omega)] at hP hD
            have hP : va_P D vwCl [(a0, .inr (9, [.ref ab, .ref ap, .ref an, .ref as, .int (nI N), .int d1, .int d2, .int d3, .int d4])), (ap, .inl (cI, 460, .inl (upd g6_ap x (ftMax (nI hh) (g6_ap x)))))] H := hP
            have hD : va_D A [(a0, .inr (9, [.ref ab, .ref ap, .ref an, .ref as, .int (nI N), .int d1, .int d2, .int d3, .int d4])), (ap, .inl (cI, 460, .inl (upd g6_ap x (ftMax (nI hh) (g6_ap x)))))] := hD
            refine lv_iinc (v := nI (x + 1)) (lv' := [(6, .int (nI (x + 1))), (5, .int (nI hh)), (0, .ref a0), (1, .int (nI pl)), (2, .int (nI hh)), (3, .int (nI w)), (4, .int (nI d))]) hx hb dX9_raise_70 hl (k := 6) rfl (ft_inc x) (by decide) rfl (fun ls hl => ?_)
            refine lv_goto (tgt := 6) hx hb dX9_raise_73 (by decide) ?_
            exact ih6 (x + 1) (nI hh) (nI hh) (nI (x + 1)) (upd g6_ap x (ftMax (nI hh) (g6_ap x))) (by omega) (by omega) (by omega) (by first | (intro h t h1 h2 h3; exact absurd (show (0 : Int32) < nI hh by rw [← nI_0]; exact nI_lt hhh (by omega)) h) | (intro h t h1 h2 h3; have h4 := ft_le0S (by omega) (by omega) (Int32.not_lt.mp h); have h5 := hm2 t h1; unfold ftPk; rw [if_neg (by omega)]; omega)) (by first | rfl | assumption) (by first | rfl | assumption) (by rw [eg6_ap]; refine ftRaiseG_s hpx ?_; rw [show ftRaiseG fp pl hh w d x x = fp x from if_neg (by omega)]; first | rw [ftPk_in hpx c25n] | rw [ftPk_out c25n, ftMax_sub (by omega) (by omega) (hfp x c12n)]) _ _ hP hD hS ls (lv_sub hl [2, 3, 4, 5, 6, 1, 0] rfl)
  exact lp6 _ pl (nI hh) (nI hh) (nI pl) fp (Nat.lt_succ_self _) (by omega) (by omega) (by intro h; exact absurd (nI_lt hhh (by omega)) (by rw [nI_0]; exact h)) (by rfl) (by rfl) (by exact ftRaiseG_0 fp pl hh w d) _ _ hP hD hS ls (lv_sub hl [2, 3, 4, 5, 6, 1, 0] rfl)
set_option maxHeartbeats 4000000 in
set_option maxRecDepth 100000 in
theorem c_X9_makeBase (l : Launch) (D : va_G) (cI cS : ClassId) (sz : Nat) (a0 ab ap an as N : Nat) (d1 d2 d3 d4 : Int32) (fb : Nat → Int32) (b0 ln : Nat) (att en : Int32) (n bk bp bl br : Nat) (kf pf lf : Nat → Int32) (P : Nat → Nat) (w : Int32) (hpp : ftPos pf n P) (hN : N ≤ 460) (hln : ln ≤ 400) : Met l yX9_makeBase wsX9_makeBase ({ frames := 2, cells := 0, slots := 0, locals := 46 }) (ftRW D cI cS [.ref a0, .ref b0, .int w] [(a0, .inr (9, [.ref ab, .ref ap, .ref an, .ref as, .int (nI N), .int d1, .int d2, .int d3, .int d4])), (ab, .inl (cI, 460, .inl fb)), (b0, .inr (4, [.int (nI ln), .int att, .int en, .int (nI n), .ref bk, .ref bp, .ref bl, .ref br])), (bk, .inl (cI, 10, .inl kf)), (bp, .inl (cI, 10, .inl pf)), (bl, .inl (cI, 10, .inl lf))] sz) (ftQv D [(a0, .inr (9, [.ref ab, .ref ap, .ref an, .ref as, .int (nI N), .int d1, .int d2, .int d3, .int d4])), (ab, .inl (cI, 460, .inl fb)), (b0, .inr (4, [.int (nI ln), .int att, .int en, .int (nI n), .ref bk, .ref bp, .ref bl, .ref br])), (bk, .inl (cI, 10, .inl kf)), (bp, .inl (cI, 10, .inl pf)), (bl, .inl (cI, 10, .inl lf))] [(a0, .inr (9, [.ref ab, .ref ap, .ref an, .ref as, .int (nI N), .int d1, .int d2, .int d3, .int d4])), (ab, .inl (cI, 460, .inl (ftFill (ftBase ln kf pf lf att n w) fb N))), (b0, .inr (4, [.int (nI ln), .int att, .int en, .int (nI n), .ref bk, .ref bp, .ref bl, .ref br])), (bk, .inl (cI, 10, .inl kf)), (bp, .inl (cI, 10, .inl pf)), (bl, .inl (cI, 10, .inl lf))] sz) 0 0 (va_A [(a0, .inr (9, [.ref ab, .ref ap, .ref an, .ref as, .int (nI N), .int d1, .int d2, .int d3, .int d4])), (ab, .inl (cI, 460, .inl fb)), (b0, .inr (4, [.int (nI ln), .int att, .int en, .int (nI n), .ref bk, .ref bp, .ref bl, .ref br])), (bk, .inl (cI, 10, .inl kf)), (bp, .inl (cI, 10, .inl pf)), (bl, .inl (cI, 10, .inl lf))] sz) := by
  refine Met.ofW (cc := cX9_makeBase) (maxL := 5) (ret := none) (by decide) rfl ?_
  intro p e s m args below meth c s₁ B hml hv
  obtain ⟨rfl, hsz, hP, hKK, hD0⟩ := hv
  have hK := hKK.1
  have hx := B.exec
  have hb := B.bytes
  have hr := B.returns
  have hts := atoms_spec (ws := wsX9_makeBase) B.pre
  have hown : s.vm.findClass RX9 = some m.cls := findClass_of_methodNamed B.named
  have hlocks := B.notSynchronized
  subst hsz
  have hD := hD0.self (sz := s.heap.size)
  generalize hAe : va_A [(a0, .inr (9, [.ref ab, .ref ap, .ref an, .ref as, .int (nI N), .int d1, .int d2, .int d3, .int d4])), (ab, .inl (cI, 460, .inl fb)), (b0, .inr (4, [.int (nI ln), .int att, .int en, .int (nI n), .ref bk, .ref bp, .ref bl, .ref br])), (bk, .inl (cI, 10, .inl kf)), (bp, .inl (cI, 10, .inl pf)), (bl, .inl (cI, 10, .inl lf))] s.heap.size = A at hD ⊢
  have hA : ∀ q : Nat, s.heap.size ≤ q → A q := fun q h => by rw [← hAe]; exact Or.inr h
  have hS : va_S A s.heap s.heap [] := va_S.rf
  have hD : va_D A [(a0, .inr (9, [.ref ab, .ref ap, .ref an, .ref as, .int (nI N), .int d1, .int d2, .int d3, .int d4])), (ab, .inl (cI, 460, .inl fb)), (b0, .inr (4, [.int (nI ln), .int att, .int en, .int (nI n), .ref bk, .ref bp, .ref bl, .ref br])), (bk, .inl (cI, 10, .inl kf)), (bp, .inl (cI, 10, .inl pf)), (bl, .inl (cI, 10, .inl lf))] := hD
  have hP : va_P D vwCl [(a0, .inr (9, [.ref ab, .ref ap, .ref an, .ref as, .int (nI N), .int d1, .int d2, .int d3, .int d4])), (ab, .inl (cI, 460, .inl fb)), (b0, .inr (4, [.int (nI ln), .int att, .int en, .int (nI n), .ref bk, .ref bp, .ref bl, .ref br])), (bk, .inl (cI, 10, .inl kf)), (bp, .inl (cI, 10, .inl pf)), (bl, .inl (cI, 10, .inl lf))] s.heap := hP
  have hl := lv_entry ([.ref a0, .ref b0, .int w]) (n := 5) (Nat.le_of_ble_eq_true rfl)
  rw [lg_entry_eq]
  generalize (lg_sl ([.ref a0, .ref b0, .int w]) ++ List.replicate (5 - (lg_sl ([.ref a0, .ref b0, .int w])).length) Slot.unset).toArray = ls at hl ⊢
  have hl : lv_has ls 5 [(0, .ref a0), (1, .ref b0), (2, .int w)] := hl
  refine lv_iconst (v := 0) hx hb dX9_makeBase_0 (by decide) ?_
  refine lv_istore_n (lv' := [(3, .int 0), (0, .ref a0), (1, .ref b0), (2, .int w)]) hx hb dX9_makeBase_1 rfl hl (by decide) rfl (fun ls hl => ?_)
  have lp2 : ∀ (n2 : Nat) (x : Nat) (x2_3 : Int32) (g2_ab : Nat → Int32), N - x < n2 → (x ≤ N) → x2_3 = nI x → g2_ab = ftFill (ftBase ln kf pf lf att n w) fb x → ∀ (H : Heap) (locs : List Loc), va_P D vwCl [(a0, .inr (9, [.ref ab, .ref ap, .ref an, .ref as, .int (nI N), .int d1, .int d2, .int d3, .int d4])), (ab, .inl (cI, 460, .inl g2_ab)), (b0, .inr (4, [.int (nI ln), .int att, .int en, .int (nI n), .ref bk, .ref bp, .ref bl, .ref br])), (bk, .inl (cI, 10, .inl kf)), (bp, .inl (cI, 10, .inl pf)), (bl, .inl (cI, 10, .inl lf))] H → va_D A [(a0, .inr (9, [.ref ab, .ref ap, .ref an, .ref as, .int (nI N), .int d1, .int d2, .int d3, .int d4])), (ab, .inl (cI, 460, .inl g2_ab)), (b0, .inr (4, [.int (nI ln), .int att, .int en, .int (nI n), .ref bk, .ref bp, .ref bl, .ref br])), (bk, .inl (cI, 10, .inl kf)), (bp, .inl (cI, 10, .inl pf)), (bl, .inl (cI, 10, .inl lf))] → va_S A s.heap H locs → ∀ ls : Array Slot, lv_has ls 5 [(0, .ref a0), (1, .ref b0), (2, .int w), (3, .int x2_3)] → W p l e (headSpec wsX9_makeBase { frames := 2, cells := 0, slots := 0, locals := 46 }).room s m ([.ref a0, .ref b0, .int w] : List Value).toArray below meth c H locs 0 0 (MQ below (ftQv D [(a0, .inr (9, [.ref ab, .ref ap, .ref an, .ref as, .int (nI N), .int d1, .int d2, .int d3, .int d4])), (ab, .inl (cI, 460, .inl fb)), (b0, .inr (4, [.int (nI ln), .int att, .int en, .int (nI n), .ref bk, .ref bp, .ref bl, .ref br])), (bk, .inl (cI, 10, .inl kf)), (bp, .inl (cI, 10, .inl pf)), (bl, .inl (cI, 10, .inl lf))] [(a0, .inr (9, [.ref ab, .ref ap, .ref an, .ref as, .int (nI N), .int d1, .int d2, .int d3, .int d4])), (ab, .inl (cI, 460, .inl (ftFill (ftBase ln kf pf lf att n w) fb N))), (b0, .inr (4, [.int (nI ln), .int att, .int en, .int (nI n), .ref bk, .ref bp, .ref bl, .ref br])), (bk, .inl (cI, 10, .inl kf)), (bp, .inl (cI, 10, .inl pf)), (bl, .inl (cI, 10, .inl lf))] s.heap.size) ([.ref a0, .ref b0, .int w] : List Value).toArray s 0 0 A) (F0 m 2 ls []) := by
    intro n2
    induction n2 with
    | zero =>
      intro x x2_3 g2_ab hm2
      exact absurd hm2 (Nat.not_lt_zero _)
    | succ n2 ih2 =>
      intro x x2_3 g2_ab hm2 hx0 ex2_3 eg2_ab H locs hP hD hS ls hl
      subst ex2_3
      refine lv_iload_n hx hb dX9_makeBase_2 rfl (lv_at hl 3 rfl) ?_
      refine lv_aload_n hx hb dX9_makeBase_3 rfl (lv_at hl 0 rfl) ?_
      refine va_get (D := D) (ci := 9) (v := .int (nI N)) (C := RX9) (T := TX9) (N := 9) hx hb hts (by decide +kernel) hown hK hP 0 rfl rfl 4 (by decide) (hts (.fieldLink RX9 30 "FiberTrace$Trace" "size" "I") (by decide +kernel)) (fun _ h9 => h9) rfl dX9_makeBase_4 ?_
      refine lv_icmp_ge (tgt := 57) hx hb dX9_makeBase_7 (by decide) (fun c7 => ?_) (fun c7 => ?_)
      · have c7n : N ≤ x := ft_leN (by omega) (by omega) c7
        have hw9 : ([(a0, .inr (9, [.ref ab, .ref ap, .ref an, .ref as, .int (nI N), .int d1, .int d2, .int d3, .int d4])), (ab, .inl (cI, 460, .inl g2_ab)), (b0, .inr (4, [.int (nI ln), .int att, .int en, .int (nI n), .ref bk, .ref bp, .ref bl, .ref br])), (bk, .inl (cI, 10, .inl kf)), (bp, .inl (cI, 10, .inl pf)), (bl, .inl (cI, 10, .inl lf))] : va_W) = [(a0, .inr (9, [.ref ab, .ref ap, .ref an, .ref as, .int (nI N), .int d1, .int d2, .int d3, .int d4])), (ab, .inl (cI, 460, .inl (ftFill (ftBase ln kf pf lf att n w) fb N))), (b0, .inr (4, [.int (nI ln), .int att, .int en, .int (nI n), .ref bk, .ref bp, .ref bl, .ref br])), (bk, .inl (cI, 10, .inl kf)), (bp, .inl (cI, 10, .inl pf)), (bl, .inl (cI, 10, .inl lf))] := by (obtain rfl : x = N := by omega); rw [eg2_ab]
        rw [hw9] at hP hD
        exact W.vret hx hb hr (fun t ht hW => ⟨⟨(), rfl, trivial, by rw [ht]; exact hP, by rw [hAe]; exact hD⟩, by rw [hAe]; exact hS.F ht⟩) hS.2.2 dX9_makeBase_57
      · have c7n : x < N := ft_nleN (by omega) (by omega) c7
        refine lv_ldc (v := 50000) hx hb hown (hts (.constant RX9 57 50000) (by decide +kernel)) dX9_makeBase_10 ?_
        refine lv_aload_n hx hb dX9_makeBase_12 rfl (lv_at hl 1 rfl) ?_
        refine lv_iload_n hx hb dX9_makeBase_13 rfl (lv_at hl 3 rfl) ?_
        refine ft_csi (r := ftFades kf pf lf att n x) (va_runV (C := RX4) (As := [.int (nI x)]) (rest := [.int 50000]) ⟨hx, hb, hml, hown, hts⟩ (c_X4_attenuationUpTo l D cI cS b0 (nI ln) att en n bk bp bl br kf pf lf P x (by first | assumption | omega) (by first | assumption | omega)) (cwV 1 hts gX9_makeBase_X4_attenuationUpTo rfl rfl rfl (by decide +kernel) ⟨Nat.le_of_ble_eq_true rfl, Nat.le_of_ble_eq_true rfl⟩) (ft_preROV (ci := 4) (q0 := 2) hP hKK [2, 3, 4, 5] rfl rfl rfl) rfl rfl hl.1 rfl (lv_room (Nat.le_of_ble_eq_true rfl)) dX9_makeBase_14 ⟨Nat.le_of_ble_eq_true rfl, Nat.le_of_ble_eq_true rfl⟩) ?_
        refine lv_isub hx hb dX9_makeBase_17 ?_
        refine lv_aload_n hx hb dX9_makeBase_18 rfl (lv_at hl 1 rfl) ?_
        refine lv_iload_n hx hb dX9_makeBase_19 rfl (lv_at hl 3 rfl) ?_
        refine lv_iload_n hx hb dX9_makeBase_20 rfl (lv_at hl 2 rfl) ?_
        refine ft_csi (r := ftSpr kf pf lf (nI x) w n) (va_runV (C := RX4) (As := [.int (nI x), .int w]) (rest := [.int (50000 - (ftFades kf pf lf att n x))]) ⟨hx, hb, hml, hown, hts⟩ (c_X4_spreadLossAt l D cI cS b0 (nI ln) att en n bk bp bl br kf pf lf P x w (by first | assumption | omega) (by first | assumption | omega)) (cwV 2 hts gX9_makeBase_X4_spreadLossAt rfl rfl rfl (by decide +kernel) ⟨Nat.le_of_ble_eq_true rfl, Nat.le_of_ble_eq_true rfl⟩) (ft_preROV (ci := 4) (q0 := 2) hP hKK [2, 3, 4, 5] rfl rfl rfl) rfl rfl hl.1 rfl (lv_room (Nat.le_of_ble_eq_true rfl)) dX9_makeBase_21 ⟨Nat.le_of_ble_eq_true rfl, Nat.le_of_ble_eq_true rfl⟩) ?_
        refine lv_isub hx hb dX9_makeBase_24 ?_
        refine lv_istore (lv' := [(4, .int ((50000 - (ftFades kf pf lf att n x)) - (ftSpr kf pf lf (nI x) w n))), (0, .ref a0), (1, .ref b0), (2, .int w), (3, .int (nI x))]) hx hb dX9_makeBase_25 hl (by decide) rfl (fun ls hl => ?_)
        refine lv_aload_n hx hb dX9_makeBase_27 rfl (lv_at hl 1 rfl) ?_
        refine va_get (D := D) (ci := 9) (v := .ref ab) (C := RX9) (T := TX9) (N := 9) hx hb hts (by decide +kernel) hown hK hP 0 rfl rfl 0 (by decide) (hts (.fieldLink RX9 9 "FiberTrace$Trace" "base" "[I") (by decide +kernel)) (fun _ h9 => h9) rfl dX9_makeBase_28 ?_
        refine lv_iload_n hx hb dX9_makeBase_31 rfl (lv_at hl 4 rfl) ?_
        refine lv_iload_n hx hb dX9_makeBase_32 rfl (lv_at hl 4 rfl) ?_
        refine lv_aload_n hx hb dX9_makeBase_33 rfl (lv_at hl 2 rfl) ?_
        refine va_get (D := D) (ci := 4) (v := .int (nI ln)) (C := RX4) (T := TX4) (N := 8) hx hb hts (by decide +kernel) hown hK hP 2 rfl rfl 0 (by decide) (hts (.fieldLink RX9 24 "FiberTrace$Link" "length" "I") (by decide +kernel)) (fun _ h9 => h9) rfl dX9_makeBase_34 ?_
        refine lv_icmp_ge (tgt := 45) hx hb dX9_makeBase_37 (by decide) (fun c37 => ?_) (fun c37 => ?_)
        · have c37n : ln ≤ x := ft_leN (by omega) (by omega) c37
          refine lv_sipush (v := 5000) hx hb dX9_makeBase_45 (by decide) ?_
          refine ft_cv (wc := [(ab, .inl (cI, 460, .inl g2_ab))]) (wr := [(a0, .inr (9, [.ref ab, .ref ap, .ref an, .ref as, .int (nI N), .int d1, .int d2, .int d3, .int d4])), (b0, .inr (4, [.int (nI ln), .int att, .int en, .int (nI n), .ref bk, .ref bp, .ref bl, .ref br])), (bk, .inl (cI, 10, .inl kf)), (bp, .inl (cI, 10, .inl pf)), (bl, .inl (cI, 10, .inl lf))]) (w1 := [(ab, .inl (cI, 460, .inl (ftPut 460 g2_ab (nI x) 5000)))]) (ws1 := [(a0, .inr (9, [.ref ab, .ref ap, .ref an, .ref as, .int (nI N), .int d1, .int d2, .int d3, .int d4])), (ab, .inl (cI, 460, .inl (ftPut 460 g2_ab (nI x) 5000))), (b0, .inr (4, [.int (nI ln), .int att, .int en, .int (nI n), .ref bk, .ref bp, .ref bl, .ref br])), (bk, .inl (cI, 10, .inl kf)), (bp, .inl (cI, 10, .inl pf)), (bl, .inl (cI, 10, .inl lf))]) (va_runSN (As := [.ref ab, .int (nI x), .int 5000]) (rest := []) ⟨hx, hb, hml, hown, hts⟩ (c_X10_put l D cI cS H.size ab 460 g2_ab (nI x) 5000 (by first | assumption | omega)) ⟨va_cnB 3 hts gX9_makeBase_X10_put_n53 rfl rfl rfl (hKK.2 _ (List.mem_of_getElem? (i := 19) rfl)) (hts (.initialized RX10) (by decide +kernel)) (by decide +kernel) ⟨Nat.le_of_ble_eq_true rfl, Nat.le_of_ble_eq_true rfl⟩, hts (.static yX10_put) (by decide +kernel), trivial⟩ (ft_preRW hP hD hKK [1] rfl rfl rfl) rfl rfl hl.1 rfl (lv_room (Nat.le_of_ble_eq_true rfl)) dX9_makeBase_48 ⟨Nat.le_of_ble_eq_true rfl, Nat.le_of_ble_eq_true rfl⟩) hP hD hS hA [1] [0, 2, 3, 4, 5] [0, 5, 1, 2, 3, 4] rfl rfl (by decide) (by decide) (by decide) rfl rfl (fun H locs hP hD hS => ?_)
          rw [ftPut_N (k := x) (by omega) (by omega)] at hP hD
          have hP : va_P D vwCl [(a0, .inr (9, [.ref ab, .ref ap, .ref an, .ref as, .int (nI N), .int d1, .int d2, .int d3, .int d4])), (ab, .inl (cI, 460, .inl (upd g2_ab x 5000))), (b0, .inr (4, [.int (nI ln), .int att, .int en, .int (nI n), .ref bk, .ref bp, .ref bl, .ref br])), (bk, .inl (cI, 10, .inl kf)), (bp, .inl (cI, 10, .inl pf)), (bl, .inl (cI, 10, .inl lf))] H := hP
          have hD : va_D A [(a0, .inr (9, [.ref ab, .ref ap, .ref an, .ref as, .int (nI N), .int d1, .int d2, .int d3, .int d4])), (ab, .inl (cI, 460, .inl (upd g2_ab x 5000))), (b0, .inr (4, [.int (nI ln), .int att, .int en, .int (nI n), .ref bk, .ref bp, .ref bl, .ref br])), (bk, .inl (cI, 10, .inl kf)), (bp, .inl (cI, 10, .inl pf)), (bl, .inl (cI, 10, .inl lf))] := hD
          refine lv_iinc (v := nI (x + 1)) (lv' := [(3, .int (nI (x + 1))), (4, .int ((50000 - (ftFades kf pf lf att n x)) - (ftSpr kf pf lf (nI x) w n))), (0, .ref a0), (1, .ref b0), (2, .int w)]) hx hb dX9_makeBase_51 hl (k := 4) rfl (ft_inc x) (by decide) rfl (fun ls hl => ?_)
          refine lv_goto (tgt := 2) hx hb dX9_makeBase_54 (by decide) ?_
          exact ih2 (x + 1) (nI (x + 1)) (upd g2_ab x 5000) (by omega) (by omega) (by first | rfl | assumption) (by rw [eg2_ab]; refine ftFill_s ?_; first | rw [ftBase, if_pos (Int32.not_le.mp c37)] | rw [ftBase, if_neg (Int32.not_lt.mpr c37)]) _ _ hP hD hS ls (lv_sub hl [2, 3, 4, 0] rfl)
        · have c37n : x < ln := ft_nleN (by omega) (by omega) c37
          refine lv_iload hx hb dX9_makeBase_40 (lv_at hl 0 rfl) ?_
          refine lv_goto (tgt := 48) hx hb dX9_makeBase_42 (by decide) ?_
          refine ft_cv (wc := [(ab, .inl (cI, 460, .inl g2_ab))]) (wr := [(a0, .inr (9, [.ref ab, .ref ap, .ref an, .ref as, .int (nI N), .int d1, .int d2, .int d3, .int d4])), (b0, .inr (4, [.int (nI ln), .int att, .int en, .int (nI n), .ref bk, .ref bp, .ref bl, .ref br])), (bk, .inl (cI, 10, .inl kf)), (bp, .inl (cI, 10, .inl pf)), (bl, .inl (cI, 10, .inl lf))]) (w1 := [(ab, .inl (cI, 460, .inl (ftPut 460 g2_ab (nI x) ((50000 - (ftFades kf pf lf att n x)) - (ftSpr kf pf lf (nI x) w n)))))]) (ws1 := [(a0, .inr (9, [.ref ab, .ref ap, .ref an, .ref as, .int (nI N), .int d1, .int d2, .int d3, .int d4])), (ab, .inl (cI, 460, .inl (ftPut 460 g2_ab (nI x) ((50000 - (ftFades kf pf lf att n x)) - (ftSpr kf pf lf (nI x) w n))))), (b0, .inr (4, [.int (nI ln), .int att, .int en, .int (nI n), .ref bk, .ref bp, .ref bl, .ref br])), (bk, .inl (cI, 10, .inl kf)), (bp, .inl (cI, 10, .inl pf)), (bl, .inl (cI, 10, .inl lf))]) (va_runSN (As := [.ref ab, .int (nI x), .int ((50000 - (ftFades kf pf lf att n x)) - (ftSpr kf pf lf (nI x) w n))]) (rest := []) ⟨hx, hb, hml, hown, hts⟩ (c_X10_put l D cI cS H.size ab 460 g2_ab (nI x) ((50000 - (ftFades kf pf lf att n x)) - (ftSpr kf pf lf (nI x) w n)) (by first | assumption | omega)) ⟨va_cnB 3 hts gX9_makeBase_X10_put_n53 rfl rfl rfl (hKK.2 _ (List.mem_of_getElem? (i := 19) rfl)) (hts (.initialized RX10) (by decide +kernel)) (by decide +kernel) ⟨Nat.le_of_ble_eq_true rfl, Nat.le_of_ble_eq_true rfl⟩, hts (.static yX10_put) (by decide +kernel), trivial⟩ (ft_preRW hP hD hKK [1] rfl rfl rfl) rfl rfl hl.1 rfl (lv_room (Nat.le_of_ble_eq_true rfl)) dX9_makeBase_48 ⟨Nat.le_of_ble_eq_true rfl, Nat.le_of_ble_eq_true rfl⟩) hP hD hS hA [1] [0, 2, 3, 4, 5] [0, 5, 1, 2, 3, 4] rfl rfl (by decide) (by decide) (by decide) rfl rfl (fun H locs hP hD hS => ?_)
          rw [ftPut_N (k := x) (by omega) (by omega)] at hP hD
          have hP : va_P D vwCl [(a0, .inr (9, [.ref ab, .ref ap, .ref an, .ref as, .int (nI N), .int d1, .int d2, .int d3, .int d4])), (ab, .inl (cI, 460, .inl (upd g2_ab x ((50000 - (ftFades kf pf lf att n x)) - (ftSpr kf pf lf (nI x) w n))))), (b0, .inr (4, [.int (nI ln), .int att, .int en, .int (nI n), .ref bk, .ref bp, .ref bl, .ref br])), (bk, .inl (cI, 10, .inl kf)), (bp, .inl (cI, 10, .inl pf)), (bl, .inl (cI, 10, .inl lf))] H := hP
          have hD : va_D A [(a0, .inr (9, [.ref ab, .ref ap, .ref an, .ref as, .int (nI N), .int d1, .int d2, .int d3, .int d4])), (ab, .inl (cI, 460, .inl (upd g2_ab x ((50000 - (ftFades kf pf lf att n x)) - (ftSpr kf pf lf (nI x) w n))))), (b0, .inr (4, [.int (nI ln), .int att, .int en, .int (nI n), .ref bk, .ref bp, .ref bl, .ref br])), (bk, .inl (cI, 10, .inl kf)), (bp, .inl (cI, 10, .inl pf)), (bl, .inl (cI, 10, .inl lf))] := hD
          refine lv_iinc (v := nI (x + 1)) (lv' := [(3, .int (nI (x + 1))), (4, .int ((50000 - (ftFades kf pf lf att n x)) - (ftSpr kf pf lf (nI x) w n))), (0, .ref a0), (1, .ref b0), (2, .int w)]) hx hb dX9_makeBase_51 hl (k := 4) rfl (ft_inc x) (by decide) rfl (fun ls hl => ?_)
          refine lv_goto (tgt := 2) hx hb dX9_makeBase_54 (by decide) ?_
          exact ih2 (x + 1) (nI (x + 1)) (upd g2_ab x ((50000 - (ftFades kf pf lf att n x)) - (ftSpr kf pf lf (nI x) w n))) (by omega) (by omega) (by first | rfl | assumption) (by rw [eg2_ab]; refine ftFill_s ?_; first | rw [ftBase, if_pos (Int32.not_le.mp c37)] | rw [ftBase, if_neg (Int32.not_lt.mpr c37)]) _ _ hP hD hS ls (lv_sub hl [2, 3, 4, 0] rfl)
  exact lp2 _ 0 0 fb (Nat.lt_succ_self _) (by omega) (by rfl) (by exact ftFill_0 _ fb) _ _ hP hD hS ls (lv_sub hl [1, 2, 3, 0] rfl)
set_option maxHeartbeats 4000000 in
set_option maxRecDepth 100000 in
theorem c_X9_makePeaks (l : Launch) (D : va_G) (cI cS : ClassId) (sz : Nat) (a0 ab ap an as N : Nat) (d1 d2 d3 d4 : Int32) (fp : Nat → Int32) (c0 ep eh r ef es eg g : Nat) (pe he f1 f2 f3 : Nat → Int32) (w d : Nat) (PP HH PG HG : Nat → Nat) (hN : N ≤ 460) (hr11 : r ≤ 11) (hg55 : g ≤ 55) (hw : w ≤ 20) (hd : d ≤ 5000) (hrf : ∀ i, i < r → pe i = nI (PP i) ∧ he i = nI (HH i) ∧ PP i ≤ 1000 ∧ 0 < HH i ∧ HH i ≤ 40000) (hgh : ∀ i, i < g → ftGhPl f1 f2 i = nI (PG i) ∧ f3 i = nI (HG i) ∧ PG i ≤ 1000 ∧ 0 < HG i ∧ HG i ≤ 40000) : Met l yX9_makePeaks wsX9_makePeaks ({ frames := 2, cells := 0, slots := 0, locals := 56 }) (ftRW D cI cS [.ref a0, .ref c0, .int (nI w), .int (nI d)] [(a0, .inr (9, [.ref ab, .ref ap, .ref an, .ref as, .int (nI N), .int d1, .int d2, .int d3, .int d4])), (ap, .inl (cI, 460, .inl fp)), (c0, .inr (1, [.ref ep, .ref eh, .int (nI r), .ref ef, .ref es, .ref eg, .int (nI g)])), (ep, .inl (cI, 11, .inl pe)), (eh, .inl (cI, 11, .inl he)), (ef, .inl (cI, 55, .inl f1)), (es, .inl (cI, 55, .inl f2)), (eg, .inl (cI, 55, .inl f3))] sz) (ftQv D [(a0, .inr (9, [.ref ab, .ref ap, .ref an, .ref as, .int (nI N), .int d1, .int d2, .int d3, .int d4])), (ap, .inl (cI, 460, .inl fp)), (c0, .inr (1, [.ref ep, .ref eh, .int (nI r), .ref ef, .ref es, .ref eg, .int (nI g)])), (ep, .inl (cI, 11, .inl pe)), (eh, .inl (cI, 11, .inl he)), (ef, .inl (cI, 55, .inl f1)), (es, .inl (cI, 55, .inl f2)), (eg, .inl (cI, 55, .inl f3))] [(a0, .inr (9, [.ref ab, .ref ap, .ref an, .ref as, .int (nI N), .int d1, .int d2, .int d3, .int d4])), (ap, .inl (cI, 460, .inl (ftPks PG HG w d N (ftPks PP HH w d N (ftFill (fun _ => 0) fp N) r) g))), (c0, .inr (1, [.ref ep, .ref eh, .int (nI r), .ref ef, .ref es, .ref eg, .int (nI g)])), (ep, .inl (cI, 11, .inl pe)), (eh, .inl (cI, 11, .inl he)), (ef, .inl (cI, 55, .inl f1)), (es, .inl (cI, 55, .inl f2)), (eg, .inl (cI, 55, .inl f3))] sz) 0 0 (va_A [(a0, .inr (9, [.ref ab, .ref ap, .ref an, .ref as, .int (nI N), .int d1, .int d2, .int d3, .int d4])), (ap, .inl (cI, 460, .inl fp)), (c0, .inr (1, [.ref ep, .ref eh, .int (nI r), .ref ef, .ref es, .ref eg, .int (nI g)])), (ep, .inl (cI, 11, .inl pe)), (eh, .inl (cI, 11, .inl he)), (ef, .inl (cI, 55, .inl f1)), (es, .inl (cI, 55, .inl f2)), (eg, .inl (cI, 55, .inl f3))] sz) := by
  refine Met.ofW (cc := cX9_makePeaks) (maxL := 5) (ret := none) (by decide) rfl ?_
  intro p e s m args below meth c s₁ B hml hv
  obtain ⟨rfl, hsz, hP, hKK, hD0⟩ := hv
  have hK := hKK.1
  have hx := B.exec
  have hb := B.bytes
  have hr := B.returns
  have hts := atoms_spec (ws := wsX9_makePeaks) B.pre
  have hown : s.vm.findClass RX9 = some m.cls := findClass_of_methodNamed B.named
  have hlocks := B.notSynchronized
  subst hsz
  have hD := hD0.self (sz := s.heap.size)
  generalize hAe : va_A [(a0, .inr (9, [.ref ab, .ref ap, .ref an, .ref as, .int (nI N), .int d1, .int d2, .int d3, .int d4])), (ap, .inl (cI, 460, .inl fp)), (c0, .inr (1, [.ref ep, .ref eh, .int (nI r), .ref ef, .ref es, .ref eg, .int (nI g)])), (ep, .inl (cI, 11, .inl pe)), (eh, .inl (cI, 11, .inl he)), (ef, .inl (cI, 55, .inl f1)), (es, .inl (cI, 55, .inl f2)), (eg, .inl (cI, 55, .inl f3))] s.heap.size = A at hD ⊢
  have hA : ∀ q : Nat, s.heap.size ≤ q → A q := fun q h => by rw [← hAe]; exact Or.inr h
  have hS : va_S A s.heap s.heap [] := va_S.rf
  have hD : va_D A [(a0, .inr (9, [.ref ab, .ref ap, .ref an, .ref as, .int (nI N), .int d1, .int d2, .int d3, .int d4])), (ap, .inl (cI, 460, .inl fp)), (c0, .inr (1, [.ref ep, .ref eh, .int (nI r), .ref ef, .ref es, .ref eg, .int (nI g)])), (ep, .inl (cI, 11, .inl pe)), (eh, .inl (cI, 11, .inl he)), (ef, .inl (cI, 55, .inl f1)), (es, .inl (cI, 55, .inl f2)), (eg, .inl (cI, 55, .inl f3))] := hD
  have hP : va_P D vwCl [(a0, .inr (9, [.ref ab, .ref ap, .ref an, .ref as, .int (nI N), .int d1, .int d2, .int d3, .int d4])), (ap, .inl (cI, 460, .inl fp)), (c0, .inr (1, [.ref ep, .ref eh, .int (nI r), .ref ef, .ref es, .ref eg, .int (nI g)])), (ep, .inl (cI, 11, .inl pe)), (eh, .inl (cI, 11, .inl he)), (ef, .inl (cI, 55, .inl f1)), (es, .inl (cI, 55, .inl f2)), (eg, .inl (cI, 55, .inl f3))] s.heap := hP
  have hl := lv_entry ([.ref a0, .ref c0, .int (nI w), .int (nI d)]) (n := 5) (Nat.le_of_ble_eq_true rfl)
  rw [lg_entry_eq]
  generalize (lg_sl ([.ref a0, .ref c0, .int (nI w), .int (nI d)]) ++ List.replicate (5 - (lg_sl ([.ref a0, .ref c0, .int (nI w), .int (nI d)])).length) Slot.unset).toArray = ls at hl ⊢
  have hl : lv_has ls 5 [(0, .ref a0), (1, .ref c0), (2, .int (nI w)), (3, .int (nI d))] := hl
  have hf0 : ∀ t, t < N → 0 ≤ ftFill (fun _ => 0) fp N t := fun t ht => by rw [ftFill_at ht]; decide
  refine lv_iconst (v := 0) hx hb dX9_makePeaks_0 (by decide) ?_
  refine lv_istore (lv' := [(4, .int 0), (0, .ref a0), (1, .ref c0), (2, .int (nI w)), (3, .int (nI d))]) hx hb dX9_makePeaks_1 hl (by decide) rfl (fun ls hl => ?_)
  have lp3 : ∀ (n3 : Nat) (x : Nat) (x3_4 : Int32) (g3_ap : Nat → Int32), N - x < n3 → (x ≤ N) → x3_4 = nI x → g3_ap = ftFill (fun _ => 0) fp x → ∀ (H : Heap) (locs : List Loc), va_P D vwCl [(a0, .inr (9, [.ref ab, .ref ap, .ref an, .ref as, .int (nI N), .int d1, .int d2, .int d3, .int d4])), (ap, .inl (cI, 460, .inl g3_ap)), (c0, .inr (1, [.ref ep, .ref eh, .int (nI r), .ref ef, .ref es, .ref eg, .int (nI g)])), (ep, .inl (cI, 11, .inl pe)), (eh, .inl (cI, 11, .inl he)), (ef, .inl (cI, 55, .inl f1)), (es, .inl (cI, 55, .inl f2)), (eg, .inl (cI, 55, .inl f3))] H → va_D A [(a0, .inr (9, [.ref ab, .ref ap, .ref an, .ref as, .int (nI N), .int d1, .int d2, .int d3, .int d4])), (ap, .inl (cI, 460, .inl g3_ap)), (c0, .inr (1, [.ref ep, .ref eh, .int (nI r), .ref ef, .ref es, .ref eg, .int (nI g)])), (ep, .inl (cI, 11, .inl pe)), (eh, .inl (cI, 11, .inl he)), (ef, .inl (cI, 55, .inl f1)), (es, .inl (cI, 55, .inl f2)), (eg, .inl (cI, 55, .inl f3))] → va_S A s.heap H locs → ∀ ls : Array Slot, lv_has ls 5 [(0, .ref a0), (1, .ref c0), (2, .int (nI w)), (3, .int (nI d)), (4, .int x3_4)] → W p l e (headSpec wsX9_makePeaks { frames := 2, cells := 0, slots := 0, locals := 56 }).room s m ([.ref a0, .ref c0, .int (nI w), .int (nI d)] : List Value).toArray below meth c H locs 0 0 (MQ below (ftQv D [(a0, .inr (9, [.ref ab, .ref ap, .ref an, .ref as, .int (nI N), .int d1, .int d2, .int d3, .int d4])), (ap, .inl (cI, 460, .inl fp)), (c0, .inr (1, [.ref ep, .ref eh, .int (nI r), .ref ef, .ref es, .ref eg, .int (nI g)])), (ep, .inl (cI, 11, .inl pe)), (eh, .inl (cI, 11, .inl he)), (ef, .inl (cI, 55, .inl f1)), (es, .inl (cI, 55, .inl f2)), (eg, .inl (cI, 55, .inl f3))] [(a0, .inr (9, [.ref ab, .ref ap, .ref an, .ref as, .int (nI N), .int d1, .int d2, .int d3, .int d4])), (ap, .inl (cI, 460, .inl (ftPks PG HG w d N (ftPks PP HH w d N (ftFill (fun _ => 0) fp N) r) g))), (c0, .inr (1, [.ref ep, .ref eh, .int (nI r), .ref ef, .ref es, .ref eg, .int (nI g)])), (ep, .inl (cI, 11, .inl pe)), (eh, .inl (cI, 11, .inl he)), (ef, .inl (cI, 55, .inl f1)), (es, .inl (cI, 55, .inl f2)), (eg, .inl (cI, 55, .inl f3))] s.heap.size) ([.ref a0, .ref c0, .int (nI w), .int (nI d)] : List Value).toArray s 0 0 A) (F0 m 3 ls []) := by
    intro n3
    induction n3 with
    | zero =>
      intro x x3_4 g3_ap hm3
      exact absurd hm3 (Nat.not_lt_zero _)
    | succ n3 ih3 =>
      intro x x3_4 g3_ap hm3 hx0 ex3_4 eg3_ap H locs hP hD hS ls hl
      subst ex3_4
      refine lv_iload hx hb dX9_makePeaks_3 (lv_at hl 4 rfl) ?_
      refine lv_aload_n hx hb dX9_makePeaks_5 rfl (lv_at hl 0 rfl) ?_
      refine va_get (D := D) (ci := 9) (v := .int (nI N)) (C := RX9) (T := TX9) (N := 9) hx hb hts (by decide +kernel) hown hK hP 0 rfl rfl 4 (by decide) (hts (.fieldLink RX9 30 "FiberTrace$Trace" "size" "I") (by decide +kernel)) (fun _ h9 => h9) rfl dX9_makePeaks_6 ?_
      refine lv_icmp_ge (tgt := 28) hx hb dX9_makePeaks_9 (by decide) (fun c9 => ?_) (fun c9 => ?_)
      · have c9n : N ≤ x := ft_leN (by omega) (by omega) c9
        refine lv_iconst (v := 0) hx hb dX9_makePeaks_28 (by decide) ?_
        refine lv_istore (lv' := [(4, .int 0), (0, .ref a0), (1, .ref c0), (2, .int (nI w)), (3, .int (nI d))]) hx hb dX9_makePeaks_29 hl (by decide) rfl (fun ls hl => ?_)
        have lp31 : ∀ (n31 : Nat) (i : Nat) (x31_4 : Int32) (g31_ap : Nat → Int32), r - i < n31 → (i ≤ r) → x31_4 = nI i → g31_ap = ftPks PP HH w d N (ftFill (fun _ => 0) fp N) i → ∀ (H : Heap) (locs : List Loc), va_P D vwCl [(a0, .inr (9, [.ref ab, .ref ap, .ref an, .ref as, .int (nI N), .int d1, .int d2, .int d3, .int d4])), (ap, .inl (cI, 460, .inl g31_ap)), (c0, .inr (1, [.ref ep, .ref eh, .int (nI r), .ref ef, .ref es, .ref eg, .int (nI g)])), (ep, .inl (cI, 11, .inl pe)), (eh, .inl (cI, 11, .inl he)), (ef, .inl (cI, 55, .inl f1)), (es, .inl (cI, 55, .inl f2)), (eg, .inl (cI, 55, .inl f3))] H → va_D A [(a0, .inr (9, [.ref ab, .ref ap, .ref an, .ref as, .int (nI N), .int d1, .int d2, .int d3, .int d4])), (ap, .inl (cI, 460, .inl g31_ap)), (c0, .inr (1, [.ref ep, .ref eh, .int (nI r), .ref ef, .ref es, .ref eg, .int (nI g)])), (ep, .inl (cI, 11, .inl pe)), (eh, .inl (cI, 11, .inl he)), (ef, .inl (cI, 55, .inl f1)), (es, .inl (cI, 55, .inl f2)), (eg, .inl (cI, 55, .inl f3))] → va_S A s.heap H locs → ∀ ls : Array Slot, lv_has ls 5 [(0, .ref a0), (1, .ref c0), (2, .int (nI w)), (3, .int (nI d)), (4, .int x31_4)] → W p l e (headSpec wsX9_makePeaks { frames := 2, cells := 0, slots := 0, locals := 56 }).room s m ([.ref a0, .ref c0, .int (nI w), .int (nI d)] : List Value).toArray below meth c H locs 0 0 (MQ below (ftQv D [(a0, .inr (9, [.ref ab, .ref ap, .ref an, .ref as, .int (nI N), .int d1, .int d2, .int d3, .int d4])), (ap, .inl (cI, 460, .inl fp)), (c0, .inr (1, [.ref ep, .ref eh, .int (nI r), .ref ef, .ref es, .ref eg, .int (nI g)])), (ep, .inl (cI, 11, .inl pe)), (eh, .inl (cI, 11, .inl he)), (ef, .inl (cI, 55, .inl f1)), (es, .inl (cI, 55, .inl f2)), (eg, .inl (cI, 55, .inl f3))] [(a0, .inr (9, [.ref ab, .ref ap, .ref an, .ref as, .int (nI N), .int d1, .int d2, .int d3, .int d4])), (ap, .inl (cI, 460, .inl (ftPks PG HG w d N (ftPks PP HH w d N (ftFill (fun _ => 0) fp N) r) g))), (c0, .inr (1, [.ref ep, .ref eh, .int (nI r), .ref ef, .ref es, .ref eg, .int (nI g)])), (ep, .inl (cI, 11, .inl pe)), (eh, .inl (cI, 11, .inl he)), (ef, .inl (cI, 55, .inl f1)), (es, .inl (cI, 55, .inl f2)), (eg, .inl (cI, 55, .inl f3))] s.heap.size) ([.ref a0, .ref c0, .int (nI w), .int (nI d)] : List Value).toArray s 0 0 A) (F0 m 31 ls []) := by
          intro n31
          induction n31 with
          | zero =>
            intro i x31_4 g31_ap hm31
            exact absurd hm31 (Nat.not_lt_zero _)
          | succ n31 ih31 =>
            intro i x31_4 g31_ap hm31 hir ex31_4 eg31_ap H locs hP hD hS ls hl
            subst ex31_4
            refine lv_iload hx hb dX9_makePeaks_31 (lv_at hl 4 rfl) ?_
            refine lv_aload_n hx hb dX9_makePeaks_33 rfl (lv_at hl 1 rfl) ?_
            refine va_get (D := D) (ci := 1) (v := .int (nI r)) (C := RX1) (T := TX1) (N := 7) hx hb hts (by decide +kernel) hown hK hP 2 rfl rfl 2 (by decide) (hts (.fieldLink RX9 66 "FiberTrace$Echoes" "reflections" "I") (by decide +kernel)) (fun _ h9 => h9) rfl dX9_makePeaks_34 ?_
            refine lv_icmp_ge (tgt := 70) hx hb dX9_makePeaks_37 (by decide) (fun c37 => ?_) (fun c37 => ?_)
            · have c37n : r ≤ i := ft_leN (by omega) (by omega) c37
              refine lv_iconst (v := 0) hx hb dX9_makePeaks_70 (by decide) ?_
              refine lv_istore (lv' := [(4, .int 0), (0, .ref a0), (1, .ref c0), (2, .int (nI w)), (3, .int (nI d))]) hx hb dX9_makePeaks_71 hl (by decide) rfl (fun ls hl => ?_)
              have lp73 : ∀ (n73 : Nat) (k : Nat) (x73_4 : Int32) (g73_ap : Nat → Int32), g - k < n73 → (k ≤ g) → x73_4 = nI k → g73_ap = ftPks PG HG w d N (ftPks PP HH w d N (ftFill (fun _ => 0) fp N) r) k → ∀ (H : Heap) (locs : List Loc), va_P D vwCl [(a0, .inr (9, [.ref ab, .ref ap, .ref an, .ref as, .int (nI N), .int d1, .int d2, .int d3, .int d4])), (ap, .inl (cI, 460, .inl g73_ap)), (c0, .inr (1, [.ref ep, .ref eh, .int (nI r), .ref ef, .ref es, .ref eg, .int (nI g)])), (ep, .inl (cI, 11, .inl pe)), (eh, .inl (cI, 11, .inl he)), (ef, .inl (cI, 55, .inl f1)), (es, .inl (cI, 55, .inl f2)), (eg, .inl (cI, 55, .inl f3))] H → va_D A [(a0, .inr (9, [.ref ab, .ref ap, .ref an, .ref as, .int (nI N), .int d1, .int d2, .int d3, .int d4])), (ap, .inl (cI, 460, .inl g73_ap)), (c0, .inr (1, [.ref ep, .ref eh, .int (nI r), .ref ef, .ref es, .ref eg, .int (nI g)])), (ep, .inl (cI, 11, .inl pe)), (eh, .inl (cI, 11, .inl he)), (ef, .inl (cI, 55, .inl f1)), (es, .inl (cI, 55, .inl f2)), (eg, .inl (cI, 55, .inl f3))] → va_S A s.heap H locs → ∀ ls : Array Slot, lv_has ls 5 [(0, .ref a0), (1, .ref c0), (2, .int (nI w)), (3, .int (nI d)), (4, .int x73_4)] → W p l e (headSpec wsX9_makePeaks { frames := 2, cells := 0, slots := 0, locals := 56 }).room s m ([.ref a0, .ref c0, .int (nI w), .int (nI d)] : List Value).toArray below meth c H locs 0 0 (MQ below (ftQv D [(a0, .inr (9, [.ref ab, .ref ap, .ref an, .ref as, .int (nI N), .int d1, .int d2, .int d3, .int d4])), (ap, .inl (cI, 460, .inl fp)), (c0, .inr (1, [.ref ep, .ref eh, .int (nI r), .ref ef, .ref es, .ref eg, .int (nI g)])), (ep, .inl (cI, 11, .inl pe)), (eh, .inl (cI, 11, .inl he)), (ef, .inl (cI, 55, .inl f1)), (es, .inl (cI, 55, .inl f2)), (eg, .inl (cI, 55, .inl f3))] [(a0, .inr (9, [.ref ab, .ref ap, .ref an, .ref as, .int (nI N), .int d1, .int d2, .int d3, .int d4])), (ap, .inl (cI, 460, .inl (ftPks PG HG w d N (ftPks PP HH w d N (ftFill (fun _ => 0) fp N) r) g))), (c0, .inr (1, [.ref ep, .ref eh, .int (nI r), .ref ef, .ref es, .ref eg, .int (nI g)])), (ep, .inl (cI, 11, .inl pe)), (eh, .inl (cI, 11, .inl he)), (ef, .inl (cI, 55, .inl f1)), (es, .inl (cI, 55, .inl f2)), (eg, .inl (cI, 55, .inl f3))] s.heap.size) ([.ref a0, .ref c0, .int (nI w), .int (nI d)] : List Value).toArray s 0 0 A) (F0 m 73 ls []) := by
                intro n73
                induction n73 with
                | zero =>
                  intro k x73_4 g73_ap hm73
                  exact absurd hm73 (Nat.not_lt_zero _)
                | succ n73 ih73 =>
                  intro k x73_4 g73_ap hm73 hkg ex73_4 eg73_ap H locs hP hD hS ls hl
                  subst ex73_4
                  refine lv_iload hx hb dX9_makePeaks_73 (lv_at hl 4 rfl) ?_
                  refine lv_aload_n hx hb dX9_makePeaks_75 rfl (lv_at hl 1 rfl) ?_
                  refine va_get (D := D) (ci := 1) (v := .int (nI g)) (C := RX1) (T := TX1) (N := 7) hx hb hts (by decide +kernel) hown hK hP 2 rfl rfl 6 (by decide) (hts (.fieldLink RX9 81 "FiberTrace$Echoes" "ghosts" "I") (by decide +kernel)) (fun _ h9 => h9) rfl dX9_makePeaks_76 ?_
                  refine lv_icmp_ge (tgt := 109) hx hb dX9_makePeaks_79 (by decide) (fun c79 => ?_) (fun c79 => ?_)
                  · have c79n : g ≤ k := ft_leN (by omega) (by omega) c79
                    have hw9 : ([(a0, .inr (9, [.ref ab, .ref ap, .ref an, .ref as, .int (nI N), .int d1, .int d2, .int d3, .int d4])), (ap, .inl (cI, 460, .inl g73_ap)), (c0, .inr (1, [.ref ep, .ref eh, .int (nI r), .ref ef, .ref es, .ref eg, .int (nI g)])), (ep, .inl (cI, 11, .inl pe)), (eh, .inl (cI, 11, .inl he)), (ef, .inl (cI, 55, .inl f1)), (es, .inl (cI, 55, .inl f2)), (eg, .inl (cI, 55, .inl f3))] : va_W) = [(a0, .inr (9, [.ref ab, .ref ap, .ref an, .ref as, .int (nI N), .int d1, .int d2, .int d3, .int d4])), (ap, .inl (cI, 460, .inl (ftPks PG HG w d N (ftPks PP HH w d N (ftFill (fun _ => 0) fp N) r) g))), (c0, .inr (1, [.ref ep, .ref eh, .int (nI r), .ref ef, .ref es, .ref eg, .int (nI g)])), (ep, .inl (cI, 11, .inl pe)), (eh, .inl (cI, 11, .inl he)), (ef, .inl (cI, 55, .inl f1)), (es, .inl (cI, 55, .inl f2)), (eg, .inl (cI, 55, .inl f3))] := by (obtain rfl : k = g := by omega); rw [eg73_ap]
                    rw [hw9] at hP hD
                    exact W.vret hx hb hr (fun t ht hW => ⟨⟨(), rfl, trivial, by rw [ht]; exact hP, by rw [hAe]; exact hD⟩, by rw [hAe]; exact hS.F ht⟩) hS.2.2 dX9_makePeaks_109
                  · have c79n : k < g := ft_nleN (by omega) (by omega) c79
                    refine lv_aload_n hx hb dX9_makePeaks_82 rfl (lv_at hl 0 rfl) ?_
                    refine lv_aload_n hx hb dX9_makePeaks_83 rfl (lv_at hl 1 rfl) ?_
                    refine lv_iload hx hb dX9_makePeaks_84 (lv_at hl 4 rfl) ?_
                    refine ft_csi (r := ftGhPl f1 f2 k) (va_runV (C := RX1) (As := [.int (nI k)]) (rest := [.ref a0]) ⟨hx, hb, hml, hown, hts⟩ (c_X1_ghostPlace l D cI cS c0 ep eh ef es eg r g f1 f2 k (by first | assumption | omega)) (cwV 1 hts gX9_makePeaks_X1_ghostPlace rfl rfl rfl (by decide +kernel) ⟨Nat.le_of_ble_eq_true rfl, Nat.le_of_ble_eq_true rfl⟩) (ft_preROV (ci := 1) (q0 := 2) hP hKK [2, 5, 6] rfl rfl rfl) rfl rfl hl.1 rfl (lv_room (Nat.le_of_ble_eq_true rfl)) dX9_makePeaks_86 ⟨Nat.le_of_ble_eq_true rfl, Nat.le_of_ble_eq_true rfl⟩) ?_
                    refine ft_top (y := nI (PG k)) (hgh k (by omega)).1 ?_
                    refine lv_aload_n hx hb dX9_makePeaks_89 rfl (lv_at hl 1 rfl) ?_
                    refine va_get (D := D) (ci := 1) (v := .ref eg) (C := RX1) (T := TX1) (N := 7) hx hb hts (by decide +kernel) hown hK hP 2 rfl rfl 5 (by decide) (hts (.fieldLink RX9 87 "FiberTrace$Echoes" "ghostHeights" "[I") (by decide +kernel)) (fun _ h9 => h9) rfl dX9_makePeaks_90 ?_
                    refine lv_iload hx hb dX9_makePeaks_93 (lv_at hl 4 rfl) ?_
                    refine ft_csi (r := ftAt 55 f3 (nI k)) (va_runSN (As := [.ref eg, .int (nI k)]) (rest := [.int (nI (PG k)), .ref a0]) ⟨hx, hb, hml, hown, hts⟩ (c_X10_at l D cI cS eg 55 f3 (nI k) (by first | assumption | omega)) ⟨va_cnB 2 hts gX9_makePeaks_X10_at_n33 rfl rfl rfl (hKK.2 _ (List.mem_of_getElem? (i := 17) rfl)) (hts (.initialized RX10) (by decide +kernel)) (by decide +kernel) ⟨Nat.le_of_ble_eq_true rfl, Nat.le_of_ble_eq_true rfl⟩, hts (.static yX10_at) (by decide +kernel), trivial⟩ (ft_preRO hP hKK [7] rfl) rfl rfl hl.1 rfl (lv_room (Nat.le_of_ble_eq_true rfl)) dX9_makePeaks_95 ⟨Nat.le_of_ble_eq_true rfl, Nat.le_of_ble_eq_true rfl⟩) ?_
                    refine ft_top (y := f3 k) (ftAt_N (by omega) (by omega)) ?_
                    refine ft_top (y := nI (HG k)) (hgh k (by omega)).2.1 ?_
                    refine lv_iload_n hx hb dX9_makePeaks_98 rfl (lv_at hl 2 rfl) ?_
                    refine lv_iload_n hx hb dX9_makePeaks_99 rfl (lv_at hl 3 rfl) ?_
                    refine ft_cv (wc := [(a0, .inr (9, [.ref ab, .ref ap, .ref an, .ref as, .int (nI N), .int d1, .int d2, .int d3, .int d4])), (ap, .inl (cI, 460, .inl g73_ap))]) (wr := [(c0, .inr (1, [.ref ep, .ref eh, .int (nI r), .ref ef, .ref es, .ref eg, .int (nI g)])), (ep, .inl (cI, 11, .inl pe)), (eh, .inl (cI, 11, .inl he)), (ef, .inl (cI, 55, .inl f1)), (es, .inl (cI, 55, .inl f2)), (eg, .inl (cI, 55, .inl f3))]) (w1 := [(a0, .inr (9, [.ref ab, .ref ap, .ref an, .ref as, .int (nI N), .int d1, .int d2, .int d3, .int d4])), (ap, .inl (cI, 460, .inl (ftRaiseG g73_ap (PG k) (HG k) w d N)))]) (ws1 := [(a0, .inr (9, [.ref ab, .ref ap, .ref an, .ref as, .int (nI N), .int d1, .int d2, .int d3, .int d4])), (ap, .inl (cI, 460, .inl (ftRaiseG g73_ap (PG k) (HG k) w d N))), (c0, .inr (1, [.ref ep, .ref eh, .int (nI r), .ref ef, .ref es, .ref eg, .int (nI g)])), (ep, .inl (cI, 11, .inl pe)), (eh, .inl (cI, 11, .inl he)), (ef, .inl (cI, 55, .inl f1)), (es, .inl (cI, 55, .inl f2)), (eg, .inl (cI, 55, .inl f3))]) (va_runV (C := RX9) (As := [.int (nI (PG k)), .int (nI (HG k)), .int (nI w), .int (nI d)]) (rest := []) ⟨hx, hb, hml, hown, hts⟩ (c_X9_raise l D cI cS H.size a0 ab ap an as N d1 d2 d3 d4 g73_ap (PG k) (HG k) w d hN (hgh k (by omega)).2.2.1 (hgh k (by omega)).2.2.2.1 (hgh k (by omega)).2.2.2.2 hw hd (by rw [eg73_ap]; exact ftPks_pos (ftPks_pos hf0 r) k)) (cwV 4 hts gX9_makePeaks_X9_raise rfl rfl rfl (by decide +kernel) ⟨Nat.le_of_ble_eq_true rfl, Nat.le_of_ble_eq_true rfl⟩) (ft_preRWV (ci := 9) (q0 := 0) hP hD hKK [0, 1] rfl rfl rfl rfl rfl) rfl rfl hl.1 rfl (lv_room (Nat.le_of_ble_eq_true rfl)) dX9_makePeaks_100 ⟨Nat.le_of_ble_eq_true rfl, Nat.le_of_ble_eq_true rfl⟩) hP hD hS hA [0, 1] [2, 3, 4, 5, 6, 7] [6, 7, 0, 1, 2, 3, 4, 5] rfl rfl (by decide) (by decide) (by decide) rfl rfl (fun H locs hP hD hS => ?_)
                    have hP : va_P D vwCl [(a0, .inr (9, [.ref ab, .ref ap, .ref an, .ref as, .int (nI N), .int d1, .int d2, .int d3, .int d4])), (ap, .inl (cI, 460, .inl (ftRaiseG g73_ap (PG k) (HG k) w d N))), (c0, .inr (1, [.ref ep, .ref eh, .int (nI r), .ref ef, .ref es, .ref eg, .int (nI g)])), (ep, .inl (cI, 11, .inl pe)), (eh, .inl (cI, 11, .inl he)), (ef, .inl (cI, 55, .inl f1)), (es, .inl (cI, 55, .inl f2)), (eg, .inl (cI, 55, .inl f3))] H := hP
                    have hD : va_D A [(a0, .inr (9, [.ref ab, .ref ap, .ref an, .ref as, .int (nI N), .int d1, .int d2, .int d3, .int d4])), (ap, .inl (cI, 460, .inl (ftRaiseG g73_ap (PG k) (HG k) w d N))), (c0, .inr (1, [.ref ep, .ref eh, .int (nI r), .ref ef, .ref es, .ref eg, .int (nI g)])), (ep, .inl (cI, 11, .inl pe)), (eh, .inl (cI, 11, .inl he)), (ef, .inl (cI, 55, .inl f1)), (es, .inl (cI, 55, .inl f2)), (eg, .inl (cI, 55, .inl f3))] := hD
                    refine lv_iinc (v := nI (k + 1)) (lv' := [(4, .int (nI (k + 1))), (0, .ref a0), (1, .ref c0), (2, .int (nI w)), (3, .int (nI d))]) hx hb dX9_makePeaks_103 hl (k := 4) rfl (ft_inc k) (by decide) rfl (fun ls hl => ?_)
                    refine lv_goto (tgt := 73) hx hb dX9_makePeaks_106 (by decide) ?_
                    exact ih73 (k + 1) (nI (k + 1)) (ftRaiseG g73_ap (PG k) (HG k) w d N) (by omega) (by omega) (by first | rfl | assumption) (by rw [eg73_ap]; rfl) _ _ hP hD hS ls (lv_sub hl [1, 2, 3, 4, 0] rfl)
              exact lp73 _ 0 0 g31_ap (Nat.lt_succ_self _) (by omega) (by rfl) (by (obtain rfl : i = r := by omega); exact eg31_ap) _ _ hP hD hS ls (lv_sub hl [1, 2, 3, 4, 0] rfl)
            · have c37n : i < r := ft_nleN (by omega) (by omega) c37
              refine lv_aload_n hx hb dX9_makePeaks_40 rfl (lv_at hl 0 rfl) ?_
              refine lv_aload_n hx hb dX9_makePeaks_41 rfl (lv_at hl 1 rfl) ?_
              refine va_get (D := D) (ci := 1) (v := .ref ep) (C := RX1) (T := TX1) (N := 7) hx hb hts (by decide +kernel) hown hK hP 2 rfl rfl 0 (by decide) (hts (.fieldLink RX9 71 "FiberTrace$Echoes" "places" "[I") (by decide +kernel)) (fun _ h9 => h9) rfl dX9_makePeaks_42 ?_
              refine lv_iload hx hb dX9_makePeaks_45 (lv_at hl 4 rfl) ?_
              refine ft_csi (r := ftAt 11 pe (nI i)) (va_runSN (As := [.ref ep, .int (nI i)]) (rest := [.ref a0]) ⟨hx, hb, hml, hown, hts⟩ (c_X10_at l D cI cS ep 11 pe (nI i) (by first | assumption | omega)) ⟨va_cnB 2 hts gX9_makePeaks_X10_at_n33 rfl rfl rfl (hKK.2 _ (List.mem_of_getElem? (i := 17) rfl)) (hts (.initialized RX10) (by decide +kernel)) (by decide +kernel) ⟨Nat.le_of_ble_eq_true rfl, Nat.le_of_ble_eq_true rfl⟩, hts (.static yX10_at) (by decide +kernel), trivial⟩ (ft_preRO hP hKK [3] rfl) rfl rfl hl.1 rfl (lv_room (Nat.le_of_ble_eq_true rfl)) dX9_makePeaks_47 ⟨Nat.le_of_ble_eq_true rfl, Nat.le_of_ble_eq_true rfl⟩) ?_
              refine ft_top (y := pe i) (ftAt_N (by omega) (by omega)) ?_
              refine ft_top (y := nI (PP i)) (hrf i (by omega)).1 ?_
              refine lv_aload_n hx hb dX9_makePeaks_50 rfl (lv_at hl 1 rfl) ?_
              refine va_get (D := D) (ci := 1) (v := .ref eh) (C := RX1) (T := TX1) (N := 7) hx hb hts (by decide +kernel) hown hK hP 2 rfl rfl 1 (by decide) (hts (.fieldLink RX9 74 "FiberTrace$Echoes" "heights" "[I") (by decide +kernel)) (fun _ h9 => h9) rfl dX9_makePeaks_51 ?_
              refine lv_iload hx hb dX9_makePeaks_54 (lv_at hl 4 rfl) ?_
              refine ft_csi (r := ftAt 11 he (nI i)) (va_runSN (As := [.ref eh, .int (nI i)]) (rest := [.int (nI (PP i)), .ref a0]) ⟨hx, hb, hml, hown, hts⟩ (c_X10_at l D cI cS eh 11 he (nI i) (by first | assumption | omega)) ⟨va_cnB 2 hts gX9_makePeaks_X10_at_n33 rfl rfl rfl (hKK.2 _ (List.mem_of_getElem? (i := 17) rfl)) (hts (.initialized RX10) (by decide +kernel)) (by decide +kernel) ⟨Nat.le_of_ble_eq_true rfl, Nat.le_of_ble_eq_true rfl⟩, hts (.static yX10_at) (by decide +kernel), trivial⟩ (ft_preRO hP hKK [4] rfl) rfl rfl hl.1 rfl (lv_room (Nat.le_of_ble_eq_true rfl)) dX9_makePeaks_56 ⟨Nat.le_of_ble_eq_true rfl, Nat.le_of_ble_eq_true rfl⟩) ?_
              refine ft_top (y := he i) (ftAt_N (by omega) (by omega)) ?_
              refine ft_top (y := nI (HH i)) (hrf i (by omega)).2.1 ?_
              refine lv_iload_n hx hb dX9_makePeaks_59 rfl (lv_at hl 2 rfl) ?_
              refine lv_iload_n hx hb dX9_makePeaks_60 rfl (lv_at hl 3 rfl) ?_
              refine ft_cv (wc := [(a0, .inr (9, [.ref ab, .ref ap, .ref an, .ref as, .int (nI N), .int d1, .int d2, .int d3, .int d4])), (ap, .inl (cI, 460, .inl g31_ap))]) (wr := [(c0, .inr (1, [.ref ep, .ref eh, .int (nI r), .ref ef, .ref es, .ref eg, .int (nI g)])), (ep, .inl (cI, 11, .inl pe)), (eh, .inl (cI, 11, .inl he)), (ef, .inl (cI, 55, .inl f1)), (es, .inl (cI, 55, .inl f2)), (eg, .inl (cI, 55, .inl f3))]) (w1 := [(a0, .inr (9, [.ref ab, .ref ap, .ref an, .ref as, .int (nI N), .int d1, .int d2, .int d3, .int d4])), (ap, .inl (cI, 460, .inl (ftRaiseG g31_ap (PP i) (HH i) w d N)))]) (ws1 := [(a0, .inr (9, [.ref ab, .ref ap, .ref an, .ref as, .int (nI N), .int d1, .int d2, .int d3, .int d4])), (ap, .inl (cI, 460, .inl (ftRaiseG g31_ap (PP i) (HH i) w d N))), (c0, .inr (1, [.ref ep, .ref eh, .int (nI r), .ref ef, .ref es, .ref eg, .int (nI g)])), (ep, .inl (cI, 11, .inl pe)), (eh, .inl (cI, 11, .inl he)), (ef, .inl (cI, 55, .inl f1)), (es, .inl (cI, 55, .inl f2)), (eg, .inl (cI, 55, .inl f3))]) (va_runV (C := RX9) (As := [.int (nI (PP i)), .int (nI (HH i)), .int (nI w), .int (nI d)]) (rest := []) ⟨hx, hb, hml, hown, hts⟩ (c_X9_raise l D cI cS H.size a0 ab ap an as N d1 d2 d3 d4 g31_ap (PP i) (HH i) w d hN (hrf i (by omega)).2.2.1 (hrf i (by omega)).2.2.2.1 (hrf i (by omega)).2.2.2.2 hw hd (by rw [eg31_ap]; exact ftPks_pos hf0 i)) (cwV 4 hts gX9_makePeaks_X9_raise rfl rfl rfl (by decide +kernel) ⟨Nat.le_of_ble_eq_true rfl, Nat.le_of_ble_eq_true rfl⟩) (ft_preRWV (ci := 9) (q0 := 0) hP hD hKK [0, 1] rfl rfl rfl rfl rfl) rfl rfl hl.1 rfl (lv_room (Nat.le_of_ble_eq_true rfl)) dX9_makePeaks_61 ⟨Nat.le_of_ble_eq_true rfl, Nat.le_of_ble_eq_true rfl⟩) hP hD hS hA [0, 1] [2, 3, 4, 5, 6, 7] [6, 7, 0, 1, 2, 3, 4, 5] rfl rfl (by decide) (by decide) (by decide) rfl rfl (fun H locs hP hD hS => ?_)
              have hP : va_P D vwCl [(a0, .inr (9, [.ref ab, .ref ap, .ref an, .ref as, .int (nI N), .int d1, .int d2, .int d3, .int d4])), (ap, .inl (cI, 460, .inl (ftRaiseG g31_ap (PP i) (HH i) w d N))), (c0, .inr (1, [.ref ep, .ref eh, .int (nI r), .ref ef, .ref es, .ref eg, .int (nI g)])), (ep, .inl (cI, 11, .inl pe)), (eh, .inl (cI, 11, .inl he)), (ef, .inl (cI, 55, .inl f1)), (es, .inl (cI, 55, .inl f2)), (eg, .inl (cI, 55, .inl f3))] H := hP
              have hD : va_D A [(a0, .inr (9, [.ref ab, .ref ap, .ref an, .ref as, .int (nI N), .int d1, .int d2, .int d3, .int d4])), (ap, .inl (cI, 460, .inl (ftRaiseG g31_ap (PP i) (HH i) w d N))), (c0, .inr (1, [.ref ep, .ref eh, .int (nI r), .ref ef, .ref es, .ref eg, .int (nI g)])), (ep, .inl (cI, 11, .inl pe)), (eh, .inl (cI, 11, .inl he)), (ef, .inl (cI, 55, .inl f1)), (es, .inl (cI, 55, .inl f2)), (eg, .inl (cI, 55, .inl f3))] := hD
              refine lv_iinc (v := nI (i + 1)) (lv' := [(4, .int (nI (i + 1))), (0, .ref a0), (1, .ref c0), (2, .int (nI w)), (3, .int (nI d))]) hx hb dX9_makePeaks_64 hl (k := 4) rfl (ft_inc i) (by decide) rfl (fun ls hl => ?_)
              refine lv_goto (tgt := 31) hx hb dX9_makePeaks_67 (by decide) ?_
              exact ih31 (i + 1) (nI (i + 1)) (ftRaiseG g31_ap (PP i) (HH i) w d N) (by omega) (by omega) (by first | rfl | assumption) (by rw [eg31_ap]; rfl) _ _ hP hD hS ls (lv_sub hl [1, 2, 3, 4, 0] rfl)
        exact lp31 _ 0 0 g3_ap (Nat.lt_succ_self _) (by omega) (by rfl) (by (obtain rfl : x = N := by omega); exact eg3_ap) _ _ hP hD hS ls (lv_sub hl [1, 2, 3, 4, 0] rfl)
      · have c9n : x < N := ft_nleN (by omega) (by omega) c9
        refine lv_aload_n hx hb dX9_makePeaks_12 rfl (lv_at hl 0 rfl) ?_
        refine va_get (D := D) (ci := 9) (v := .ref ap) (C := RX9) (T := TX9) (N := 9) hx hb hts (by decide +kernel) hown hK hP 0 rfl rfl 1 (by decide) (hts (.fieldLink RX9 15 "FiberTrace$Trace" "peaks" "[I") (by decide +kernel)) (fun _ h9 => h9) rfl dX9_makePeaks_13 ?_
        refine lv_iload hx hb dX9_makePeaks_16 (lv_at hl 4 rfl) ?_
        refine lv_iconst (v := 0) hx hb dX9_makePeaks_18 (by decide) ?_
        refine ft_cv (wc := [(ap, .inl (cI, 460, .inl g3_ap))]) (wr := [(a0, .inr (9, [.ref ab, .ref ap, .ref an, .ref as, .int (nI N), .int d1, .int d2, .int d3, .int d4])), (c0, .inr (1, [.ref ep, .ref eh, .int (nI r), .ref ef, .ref es, .ref eg, .int (nI g)])), (ep, .inl (cI, 11, .inl pe)), (eh, .inl (cI, 11, .inl he)), (ef, .inl (cI, 55, .inl f1)), (es, .inl (cI, 55, .inl f2)), (eg, .inl (cI, 55, .inl f3))]) (w1 := [(ap, .inl (cI, 460, .inl (ftPut 460 g3_ap (nI x) 0)))]) (ws1 := [(a0, .inr (9, [.ref ab, .ref ap, .ref an, .ref as, .int (nI N), .int d1, .int d2, .int d3, .int d4])), (ap, .inl (cI, 460, .inl (ftPut 460 g3_ap (nI x) 0))), (c0, .inr (1, [.ref ep, .ref eh, .int (nI r), .ref ef, .ref es, .ref eg, .int (nI g)])), (ep, .inl (cI, 11, .inl pe)), (eh, .inl (cI, 11, .inl he)), (ef, .inl (cI, 55, .inl f1)), (es, .inl (cI, 55, .inl f2)), (eg, .inl (cI, 55, .inl f3))]) (va_runSN (As := [.ref ap, .int (nI x), .int 0]) (rest := []) ⟨hx, hb, hml, hown, hts⟩ (c_X10_put l D cI cS H.size ap 460 g3_ap (nI x) 0 (by first | assumption | omega)) ⟨va_cnB 3 hts gX9_makePeaks_X10_put_n53 rfl rfl rfl (hKK.2 _ (List.mem_of_getElem? (i := 19) rfl)) (hts (.initialized RX10) (by decide +kernel)) (by decide +kernel) ⟨Nat.le_of_ble_eq_true rfl, Nat.le_of_ble_eq_true rfl⟩, hts (.static yX10_put) (by decide +kernel), trivial⟩ (ft_preRW hP hD hKK [1] rfl rfl rfl) rfl rfl hl.1 rfl (lv_room (Nat.le_of_ble_eq_true rfl)) dX9_makePeaks_19 ⟨Nat.le_of_ble_eq_true rfl, Nat.le_of_ble_eq_true rfl⟩) hP hD hS hA [1] [0, 2, 3, 4, 5, 6, 7] [0, 7, 1, 2, 3, 4, 5, 6] rfl rfl (by decide) (by decide) (by decide) rfl rfl (fun H locs hP hD hS => ?_)
        rw [ftPut_N (k := x) (by omega) (by omega)] at hP hD
        have hP : va_P D vwCl [(a0, .inr (9, [.ref ab, .ref ap, .ref an, .ref as, .int (nI N), .int d1, .int d2, .int d3, .int d4])), (ap, .inl (cI, 460, .inl (upd g3_ap x 0))), (c0, .inr (1, [.ref ep, .ref eh, .int (nI r), .ref ef, .ref es, .ref eg, .int (nI g)])), (ep, .inl (cI, 11, .inl pe)), (eh, .inl (cI, 11, .inl he)), (ef, .inl (cI, 55, .inl f1)), (es, .inl (cI, 55, .inl f2)), (eg, .inl (cI, 55, .inl f3))] H := hP
        have hD : va_D A [(a0, .inr (9, [.ref ab, .ref ap, .ref an, .ref as, .int (nI N), .int d1, .int d2, .int d3, .int d4])), (ap, .inl (cI, 460, .inl (upd g3_ap x 0))), (c0, .inr (1, [.ref ep, .ref eh, .int (nI r), .ref ef, .ref es, .ref eg, .int (nI g)])), (ep, .inl (cI, 11, .inl pe)), (eh, .inl (cI, 11, .inl he)), (ef, .inl (cI, 55, .inl f1)), (es, .inl (cI, 55, .inl f2)), (eg, .inl (cI, 55, .inl f3))] := hD
        refine lv_iinc (v := nI (x + 1)) (lv' := [(4, .int (nI (x + 1))), (0, .ref a0), (1, .ref c0), (2, .int (nI w)), (3, .int (nI d))]) hx hb dX9_makePeaks_22 hl (k := 4) rfl (ft_inc x) (by decide) rfl (fun ls hl => ?_)
        refine lv_goto (tgt := 3) hx hb dX9_makePeaks_25 (by decide) ?_
        exact ih3 (x + 1) (nI (x + 1)) (upd g3_ap x 0) (by omega) (by omega) (by first | rfl | assumption) (by rw [eg3_ap]; exact ftFill_s rfl) _ _ hP hD hS ls (lv_sub hl [1, 2, 3, 4, 0] rfl)
  exact lp3 _ 0 0 fp (Nat.lt_succ_self _) (by omega) (by rfl) (by exact ftFill_0 _ fp) _ _ hP hD hS ls (lv_sub hl [1, 2, 3, 4, 0] rfl)
set_option maxHeartbeats 4000000 in
set_option maxRecDepth 100000 in
theorem c_X9_isDrawnFor (l : Launch) (D : va_G) (cI cS : ClassId) (a0 ab ap an as N : Nat) (d1 d2 d3 d4 : Int32) (b0 : Nat) (sf : Nat → Int32)  : Met l yX9_isDrawnFor wsX9_isDrawnFor ({ frames := 1, cells := 0, slots := 0, locals := 21 }) (ftRO D cI cS [.ref a0, .ref b0] [(a0, .inr (9, [.ref ab, .ref ap, .ref an, .ref as, .int (nI N), .int d1, .int d2, .int d3, .int d4])), (b0, .inl (cI, 11, .inl sf))]) (vp_Si (fun o9 => o9 = ftB (d1 = nI N ∧ d2 = sf 3 ∧ d3 = sf 4 ∧ d4 = sf 5))) 0 0 (fun _ => False) := by
  refine Met.ofW (cc := cX9_isDrawnFor) (maxL := 2) (ret := (some .boolean)) (by decide) rfl ?_
  intro p e s m args below meth c s₁ B hml hv
  obtain ⟨rfl, hP, hKK⟩ := hv
  have hK := hKK.1
  have hx := B.exec
  have hb := B.bytes
  have hr := B.returns
  have hts := atoms_spec (ws := wsX9_isDrawnFor) B.pre
  have hown : s.vm.findClass RX9 = some m.cls := findClass_of_methodNamed B.named
  have hlocks := B.notSynchronized
  have hP : va_P D vwCl [(a0, .inr (9, [.ref ab, .ref ap, .ref an, .ref as, .int (nI N), .int d1, .int d2, .int d3, .int d4])), (b0, .inl (cI, 11, .inl sf))] s.heap := hP
  have hl := lv_entry ([.ref a0, .ref b0]) (n := 2) (Nat.le_of_ble_eq_true rfl)
  rw [lg_entry_eq]
  generalize (lg_sl ([.ref a0, .ref b0]) ++ List.replicate (2 - (lg_sl ([.ref a0, .ref b0])).length) Slot.unset).toArray = ls at hl ⊢
  have hl : lv_has ls 2 [(0, .ref a0), (1, .ref b0)] := hl
  refine lv_aload_n hx hb dX9_isDrawnFor_0 rfl (lv_at hl 0 rfl) ?_
  refine va_get (D := D) (ci := 9) (v := .int d1) (C := RX9) (T := TX9) (N := 9) hx hb hts (by decide +kernel) hown hK hP 0 rfl rfl 5 (by decide) (hts (.fieldLink RX9 95 "FiberTrace$Trace" "drawnSize" "I") (by decide +kernel)) (fun _ h9 => h9) rfl dX9_isDrawnFor_1 ?_
  refine lv_aload_n hx hb dX9_isDrawnFor_4 rfl (lv_at hl 0 rfl) ?_
  refine va_get (D := D) (ci := 9) (v := .int (nI N)) (C := RX9) (T := TX9) (N := 9) hx hb hts (by decide +kernel) hown hK hP 0 rfl rfl 4 (by decide) (hts (.fieldLink RX9 30 "FiberTrace$Trace" "size" "I") (by decide +kernel)) (fun _ h9 => h9) rfl dX9_isDrawnFor_5 ?_
  refine lv_icmp_ne (tgt := 51) hx hb dX9_isDrawnFor_8 (by decide) (fun c8 => ?_) (fun c8 => ?_)
  · refine lv_iconst (v := 0) hx hb dX9_isDrawnFor_51 (by decide) ?_
    exact W.zret (v := 0) hx hb hr (by rfl) (fun t ht hW => ⟨0, rfl, (by show (0 : Int32) = ftB (d1 = nI N ∧ d2 = sf 3 ∧ d3 = sf 4 ∧ d4 = sf 5); first | exact (ftB_t ⟨c8, c20, c32, c44⟩).symm | exact (ftB_f (fun q => c44 q.2.2.2)).symm | exact (ftB_f (fun q => c32 q.2.2.1)).symm | exact (ftB_f (fun q => c20 q.2.1)).symm | exact (ftB_f (fun q => c8 q.1)).symm), ht⟩) (fun _ h9 => absurd h9 List.not_mem_nil) dX9_isDrawnFor_52
  · refine lv_aload_n hx hb dX9_isDrawnFor_11 rfl (lv_at hl 0 rfl) ?_
    refine va_get (D := D) (ci := 9) (v := .int d2) (C := RX9) (T := TX9) (N := 9) hx hb hts (by decide +kernel) hown hK hP 0 rfl rfl 6 (by decide) (hts (.fieldLink RX9 98 "FiberTrace$Trace" "drawnHeight" "I") (by decide +kernel)) (fun _ h9 => h9) rfl dX9_isDrawnFor_12 ?_
    refine lv_aload_n hx hb dX9_isDrawnFor_15 rfl (lv_at hl 1 rfl) ?_
    refine lv_iconst (v := 3) hx hb dX9_isDrawnFor_16 (by decide) ?_
    refine ft_csi (r := ftAt 11 sf 3) (va_runSN (As := [.ref b0, .int 3]) (rest := [.int d2]) ⟨hx, hb, hml, hown, hts⟩ (c_X10_at l D cI cS b0 11 sf 3 (by first | assumption | omega)) ⟨va_cnB 2 hts gX9_isDrawnFor_X10_at_n33 rfl rfl rfl (hKK.2 _ (List.mem_of_getElem? (i := 17) rfl)) (hts (.initialized RX10) (by decide +kernel)) (by decide +kernel) ⟨Nat.le_of_ble_eq_true rfl, Nat.le_of_ble_eq_true rfl⟩, hts (.static yX10_at) (by decide +kernel), trivial⟩ (ft_preRO hP hKK [1] rfl) rfl rfl hl.1 rfl (lv_room (Nat.le_of_ble_eq_true rfl)) dX9_isDrawnFor_17 ⟨Nat.le_of_ble_eq_true rfl, Nat.le_of_ble_eq_true rfl⟩) ?_
    refine ft_top (y := sf 3) (ftAt_N (k := 3) (by omega) (by omega)) ?_
    refine lv_icmp_ne (tgt := 51) hx hb dX9_isDrawnFor_20 (by decide) (fun c20 => ?_) (fun c20 => ?_)
    · refine lv_iconst (v := 0) hx hb dX9_isDrawnFor_51 (by decide) ?_
      exact W.zret (v := 0) hx hb hr (by rfl) (fun t ht hW => ⟨0, rfl, (by show (0 : Int32) = ftB (d1 = nI N ∧ d2 = sf 3 ∧ d3 = sf 4 ∧ d4 = sf 5); first | exact (ftB_t ⟨c8, c20, c32, c44⟩).symm | exact (ftB_f (fun q => c44 q.2.2.2)).symm | exact (ftB_f (fun q => c32 q.2.2.1)).symm | exact (ftB_f (fun q => c20 q.2.1)).symm | exact (ftB_f (fun q => c8 q.1)).symm), ht⟩) (fun _ h9 => absurd h9 List.not_mem_nil) dX9_isDrawnFor_52
    · refine lv_aload_n hx hb dX9_isDrawnFor_23 rfl (lv_at hl 0 rfl) ?_
      refine va_get (D := D) (ci := 9) (v := .int d3) (C := RX9) (T := TX9) (N := 9) hx hb hts (by decide +kernel) hown hK hP 0 rfl rfl 7 (by decide) (hts (.fieldLink RX9 101 "FiberTrace$Trace" "drawnPulses" "I") (by decide +kernel)) (fun _ h9 => h9) rfl dX9_isDrawnFor_24 ?_
      refine lv_aload_n hx hb dX9_isDrawnFor_27 rfl (lv_at hl 1 rfl) ?_
      refine lv_iconst (v := 4) hx hb dX9_isDrawnFor_28 (by decide) ?_
      refine ft_csi (r := ftAt 11 sf 4) (va_runSN (As := [.ref b0, .int 4]) (rest := [.int d3]) ⟨hx, hb, hml, hown, hts⟩ (c_X10_at l D cI cS b0 11 sf 4 (by first | assumption | omega)) ⟨va_cnB 2 hts gX9_isDrawnFor_X10_at_n33 rfl rfl rfl (hKK.2 _ (List.mem_of_getElem? (i := 17) rfl)) (hts (.initialized RX10) (by decide +kernel)) (by decide +kernel) ⟨Nat.le_of_ble_eq_true rfl, Nat.le_of_ble_eq_true rfl⟩, hts (.static yX10_at) (by decide +kernel), trivial⟩ (ft_preRO hP hKK [1] rfl) rfl rfl hl.1 rfl (lv_room (Nat.le_of_ble_eq_true rfl)) dX9_isDrawnFor_29 ⟨Nat.le_of_ble_eq_true rfl, Nat.le_of_ble_eq_true rfl⟩) ?_
      refine ft_top (y := sf 4) (ftAt_N (k := 4) (by omega) (by omega)) ?_
      refine lv_icmp_ne (tgt := 51) hx hb dX9_isDrawnFor_32 (by decide) (fun c32 => ?_) (fun c32 => ?_)
      · refine lv_iconst (v := 0) hx hb dX9_isDrawnFor_51 (by decide) ?_
        exact W.zret (v := 0) hx hb hr (by rfl) (fun t ht hW => ⟨0, rfl, (by show (0 : Int32) = ftB (d1 = nI N ∧ d2 = sf 3 ∧ d3 = sf 4 ∧ d4 = sf 5); first | exact (ftB_t ⟨c8, c20, c32, c44⟩).symm | exact (ftB_f (fun q => c44 q.2.2.2)).symm | exact (ftB_f (fun q => c32 q.2.2.1)).symm | exact (ftB_f (fun q => c20 q.2.1)).symm | exact (ftB_f (fun q => c8 q.1)).symm), ht⟩) (fun _ h9 => absurd h9 List.not_mem_nil) dX9_isDrawnFor_52
      · refine lv_aload_n hx hb dX9_isDrawnFor_35 rfl (lv_at hl 0 rfl) ?_
        refine va_get (D := D) (ci := 9) (v := .int d4) (C := RX9) (T := TX9) (N := 9) hx hb hts (by decide +kernel) hown hK hP 0 rfl rfl 8 (by decide) (hts (.fieldLink RX9 104 "FiberTrace$Trace" "drawnSeed" "I") (by decide +kernel)) (fun _ h9 => h9) rfl dX9_isDrawnFor_36 ?_
        refine lv_aload_n hx hb dX9_isDrawnFor_39 rfl (lv_at hl 1 rfl) ?_
        refine lv_iconst (v := 5) hx hb dX9_isDrawnFor_40 (by decide) ?_
        refine ft_csi (r := ftAt 11 sf 5) (va_runSN (As := [.ref b0, .int 5]) (rest := [.int d4]) ⟨hx, hb, hml, hown, hts⟩ (c_X10_at l D cI cS b0 11 sf 5 (by first | assumption | omega)) ⟨va_cnB 2 hts gX9_isDrawnFor_X10_at_n33 rfl rfl rfl (hKK.2 _ (List.mem_of_getElem? (i := 17) rfl)) (hts (.initialized RX10) (by decide +kernel)) (by decide +kernel) ⟨Nat.le_of_ble_eq_true rfl, Nat.le_of_ble_eq_true rfl⟩, hts (.static yX10_at) (by decide +kernel), trivial⟩ (ft_preRO hP hKK [1] rfl) rfl rfl hl.1 rfl (lv_room (Nat.le_of_ble_eq_true rfl)) dX9_isDrawnFor_41 ⟨Nat.le_of_ble_eq_true rfl, Nat.le_of_ble_eq_true rfl⟩) ?_
        refine ft_top (y := sf 5) (ftAt_N (k := 5) (by omega) (by omega)) ?_
        refine lv_icmp_ne (tgt := 51) hx hb dX9_isDrawnFor_44 (by decide) (fun c44 => ?_) (fun c44 => ?_)
        · refine lv_iconst (v := 0) hx hb dX9_isDrawnFor_51 (by decide) ?_
          exact W.zret (v := 0) hx hb hr (by rfl) (fun t ht hW => ⟨0, rfl, (by show (0 : Int32) = ftB (d1 = nI N ∧ d2 = sf 3 ∧ d3 = sf 4 ∧ d4 = sf 5); first | exact (ftB_t ⟨c8, c20, c32, c44⟩).symm | exact (ftB_f (fun q => c44 q.2.2.2)).symm | exact (ftB_f (fun q => c32 q.2.2.1)).symm | exact (ftB_f (fun q => c20 q.2.1)).symm | exact (ftB_f (fun q => c8 q.1)).symm), ht⟩) (fun _ h9 => absurd h9 List.not_mem_nil) dX9_isDrawnFor_52
        · refine lv_iconst (v := 1) hx hb dX9_isDrawnFor_47 (by decide) ?_
          refine lv_goto (tgt := 52) hx hb dX9_isDrawnFor_48 (by decide) ?_
          exact W.zret (v := 1) hx hb hr (by rfl) (fun t ht hW => ⟨1, rfl, (by show (1 : Int32) = ftB (d1 = nI N ∧ d2 = sf 3 ∧ d3 = sf 4 ∧ d4 = sf 5); first | exact (ftB_t ⟨c8, c20, c32, c44⟩).symm | exact (ftB_f (fun q => c44 q.2.2.2)).symm | exact (ftB_f (fun q => c32 q.2.2.1)).symm | exact (ftB_f (fun q => c20 q.2.1)).symm | exact (ftB_f (fun q => c8 q.1)).symm), ht⟩) (fun _ h9 => absurd h9 List.not_mem_nil) dX9_isDrawnFor_52
set_option maxHeartbeats 4000000 in
set_option maxRecDepth 100000 in
theorem c_X9_draw (l : Launch) (D : va_G) (cI cS : ClassId) (sz : Nat) (a0 ab ap an as N : Nat) (d1 d2 d3 d4 : Int32) (fn : Nat → Int32) (b0 : Nat) (sf : Nat → Int32) (n0 : Nat) (z a : Int32) (pu : Nat) (hN : N ≤ 460) (hpu : sf 4 = nI pu) (hpu2 : pu < 2 ^ 31) : Met l yX9_draw wsX9_draw ({ frames := 2, cells := 0, slots := 0, locals := 45 }) (ftRW D cI cS [.ref a0, .ref b0, .ref n0] [(a0, .inr (9, [.ref ab, .ref ap, .ref an, .ref as, .int (nI N), .int d1, .int d2, .int d3, .int d4])), (an, .inl (cI, 460, .inl fn)), (b0, .inl (cI, 11, .inl sf)), (n0, .inr (6, [.int z, .int a]))] sz) (ftQv D [(a0, .inr (9, [.ref ab, .ref ap, .ref an, .ref as, .int (nI N), .int d1, .int d2, .int d3, .int d4])), (an, .inl (cI, 460, .inl fn)), (b0, .inl (cI, 11, .inl sf)), (n0, .inr (6, [.int z, .int a]))] [(a0, .inr (9, [.ref ab, .ref ap, .ref an, .ref as, .int (nI N), .int (nI N), .int (sf 3), .int (sf 4), .int (sf 5)])), (an, .inl (cI, 460, .inl (ftFill (ftNoise (sf 3) (sf 5) pu) fn N))), (b0, .inl (cI, 11, .inl sf)), (n0, .inr (6, [.int (ftNzs (sf 3) (sf 5) pu N), .int (sf 3)]))] sz) 0 0 (va_A [(a0, .inr (9, [.ref ab, .ref ap, .ref an, .ref as, .int (nI N), .int d1, .int d2, .int d3, .int d4])), (an, .inl (cI, 460, .inl fn)), (b0, .inl (cI, 11, .inl sf)), (n0, .inr (6, [.int z, .int a]))] sz) := by
  refine Met.ofW (cc := cX9_draw) (maxL := 4) (ret := none) (by decide) rfl ?_
  intro p e s m args below meth c s₁ B hml hv
  obtain ⟨rfl, hsz, hP, hKK, hD0⟩ := hv
  have hK := hKK.1
  have hx := B.exec
  have hb := B.bytes
  have hr := B.returns
  have hts := atoms_spec (ws := wsX9_draw) B.pre
  have hown : s.vm.findClass RX9 = some m.cls := findClass_of_methodNamed B.named
  have hlocks := B.notSynchronized
  subst hsz
  have hD := hD0.self (sz := s.heap.size)
  generalize hAe : va_A [(a0, .inr (9, [.ref ab, .ref ap, .ref an, .ref as, .int (nI N), .int d1, .int d2, .int d3, .int d4])), (an, .inl (cI, 460, .inl fn)), (b0, .inl (cI, 11, .inl sf)), (n0, .inr (6, [.int z, .int a]))] s.heap.size = A at hD ⊢
  have hA : ∀ q : Nat, s.heap.size ≤ q → A q := fun q h => by rw [← hAe]; exact Or.inr h
  have hS : va_S A s.heap s.heap [] := va_S.rf
  have hD : va_D A [(a0, .inr (9, [.ref ab, .ref ap, .ref an, .ref as, .int (nI N), .int d1, .int d2, .int d3, .int d4])), (an, .inl (cI, 460, .inl fn)), (b0, .inl (cI, 11, .inl sf)), (n0, .inr (6, [.int z, .int a]))] := hD
  have hP : va_P D vwCl [(a0, .inr (9, [.ref ab, .ref ap, .ref an, .ref as, .int (nI N), .int d1, .int d2, .int d3, .int d4])), (an, .inl (cI, 460, .inl fn)), (b0, .inl (cI, 11, .inl sf)), (n0, .inr (6, [.int z, .int a]))] s.heap := hP
  have hl := lv_entry ([.ref a0, .ref b0, .ref n0]) (n := 4) (Nat.le_of_ble_eq_true rfl)
  rw [lg_entry_eq]
  generalize (lg_sl ([.ref a0, .ref b0, .ref n0]) ++ List.replicate (4 - (lg_sl ([.ref a0, .ref b0, .ref n0])).length) Slot.unset).toArray = ls at hl ⊢
  have hl : lv_has ls 4 [(0, .ref a0), (1, .ref b0), (2, .ref n0)] := hl
  refine lv_aload_n hx hb dX9_draw_0 rfl (lv_at hl 0 rfl) ?_
  refine lv_aload_n hx hb dX9_draw_1 rfl (lv_at hl 0 rfl) ?_
  refine va_get (D := D) (ci := 9) (v := .int (nI N)) (C := RX9) (T := TX9) (N := 9) hx hb hts (by decide +kernel) hown hK hP 0 rfl rfl 4 (by decide) (hts (.fieldLink RX9 30 "FiberTrace$Trace" "size" "I") (by decide +kernel)) (fun _ h9 => h9) rfl dX9_draw_2 ?_
  refine va_put (D := D) (ci := 9) (v := .int (nI N)) (ty := .int) (C := RX9) (T := TX9) (N := 9) hx hb hts (by decide +kernel) tyX9 tyX9_ok nmX9 hown hK hP hD hS 0 rfl rfl 5 (by decide) (hts (.fieldLink RX9 95 "FiberTrace$Trace" "drawnSize" "I") (by decide +kernel)) (fun _ h9 => h9) rfl (by decide +kernel) rfl rfl (Nat.le_of_ble_eq_true rfl) dX9_draw_5 (fun H locs hP hD hS => ?_)
  have hP : va_P D vwCl [(a0, .inr (9, [.ref ab, .ref ap, .ref an, .ref as, .int (nI N), .int (nI N), .int d2, .int d3, .int d4])), (an, .inl (cI, 460, .inl fn)), (b0, .inl (cI, 11, .inl sf)), (n0, .inr (6, [.int z, .int a]))] H := hP
  have hD : va_D A [(a0, .inr (9, [.ref ab, .ref ap, .ref an, .ref as, .int (nI N), .int (nI N), .int d2, .int d3, .int d4])), (an, .inl (cI, 460, .inl fn)), (b0, .inl (cI, 11, .inl sf)), (n0, .inr (6, [.int z, .int a]))] := hD
  refine lv_aload_n hx hb dX9_draw_8 rfl (lv_at hl 0 rfl) ?_
  refine lv_aload_n hx hb dX9_draw_9 rfl (lv_at hl 1 rfl) ?_
  refine lv_iconst (v := 3) hx hb dX9_draw_10 (by decide) ?_
  refine ft_csi (r := ftAt 11 sf 3) (va_runSN (As := [.ref b0, .int 3]) (rest := [.ref a0]) ⟨hx, hb, hml, hown, hts⟩ (c_X10_at l D cI cS b0 11 sf 3 (by first | assumption | omega)) ⟨va_cnB 2 hts gX9_draw_X10_at_n33 rfl rfl rfl (hKK.2 _ (List.mem_of_getElem? (i := 17) rfl)) (hts (.initialized RX10) (by decide +kernel)) (by decide +kernel) ⟨Nat.le_of_ble_eq_true rfl, Nat.le_of_ble_eq_true rfl⟩, hts (.static yX10_at) (by decide +kernel), trivial⟩ (ft_preRO hP hKK [2] rfl) rfl rfl hl.1 rfl (lv_room (Nat.le_of_ble_eq_true rfl)) dX9_draw_11 ⟨Nat.le_of_ble_eq_true rfl, Nat.le_of_ble_eq_true rfl⟩) ?_
  refine ft_top (y := sf 3) (ftAt_N (k := 3) (by omega) (by omega)) ?_
  refine va_put (D := D) (ci := 9) (v := .int (sf 3)) (ty := .int) (C := RX9) (T := TX9) (N := 9) hx hb hts (by decide +kernel) tyX9 tyX9_ok nmX9 hown hK hP hD hS 0 rfl rfl 6 (by decide) (hts (.fieldLink RX9 98 "FiberTrace$Trace" "drawnHeight" "I") (by decide +kernel)) (fun _ h9 => h9) rfl (by decide +kernel) rfl rfl (Nat.le_of_ble_eq_true rfl) dX9_draw_14 (fun H locs hP hD hS => ?_)
  have hP : va_P D vwCl [(a0, .inr (9, [.ref ab, .ref ap, .ref an, .ref as, .int (nI N), .int (nI N), .int (sf 3), .int d3, .int d4])), (an, .inl (cI, 460, .inl fn)), (b0, .inl (cI, 11, .inl sf)), (n0, .inr (6, [.int z, .int a]))] H := hP
  have hD : va_D A [(a0, .inr (9, [.ref ab, .ref ap, .ref an, .ref as, .int (nI N), .int (nI N), .int (sf 3), .int d3, .int d4])), (an, .inl (cI, 460, .inl fn)), (b0, .inl (cI, 11, .inl sf)), (n0, .inr (6, [.int z, .int a]))] := hD
  refine lv_aload_n hx hb dX9_draw_17 rfl (lv_at hl 0 rfl) ?_
  refine lv_aload_n hx hb dX9_draw_18 rfl (lv_at hl 1 rfl) ?_
  refine lv_iconst (v := 4) hx hb dX9_draw_19 (by decide) ?_
  refine ft_csi (r := ftAt 11 sf 4) (va_runSN (As := [.ref b0, .int 4]) (rest := [.ref a0]) ⟨hx, hb, hml, hown, hts⟩ (c_X10_at l D cI cS b0 11 sf 4 (by first | assumption | omega)) ⟨va_cnB 2 hts gX9_draw_X10_at_n33 rfl rfl rfl (hKK.2 _ (List.mem_of_getElem? (i := 17) rfl)) (hts (.initialized RX10) (by decide +kernel)) (by decide +kernel) ⟨Nat.le_of_ble_eq_true rfl, Nat.le_of_ble_eq_true rfl⟩, hts (.static yX10_at) (by decide +kernel), trivial⟩ (ft_preRO hP hKK [2] rfl) rfl rfl hl.1 rfl (lv_room (Nat.le_of_ble_eq_true rfl)) dX9_draw_20 ⟨Nat.le_of_ble_eq_true rfl, Nat.le_of_ble_eq_true rfl⟩) ?_
  refine ft_top (y := sf 4) (ftAt_N (k := 4) (by omega) (by omega)) ?_
  refine va_put (D := D) (ci := 9) (v := .int (sf 4)) (ty := .int) (C := RX9) (T := TX9) (N := 9) hx hb hts (by decide +kernel) tyX9 tyX9_ok nmX9 hown hK hP hD hS 0 rfl rfl 7 (by decide) (hts (.fieldLink RX9 101 "FiberTrace$Trace" "drawnPulses" "I") (by decide +kernel)) (fun _ h9 => h9) rfl (by decide +kernel) rfl rfl (Nat.le_of_ble_eq_true rfl) dX9_draw_23 (fun H locs hP hD hS => ?_)
  have hP : va_P D vwCl [(a0, .inr (9, [.ref ab, .ref ap, .ref an, .ref as, .int (nI N), .int (nI N), .int (sf 3), .int (sf 4), .int d4])), (an, .inl (cI, 460, .inl fn)), (b0, .inl (cI, 11, .inl sf)), (n0, .inr (6, [.int z, .int a]))] H := hP
  have hD : va_D A [(a0, .inr (9, [.ref ab, .ref ap, .ref an, .ref as, .int (nI N), .int (nI N), .int (sf 3), .int (sf 4), .int d4])), (an, .inl (cI, 460, .inl fn)), (b0, .inl (cI, 11, .inl sf)), (n0, .inr (6, [.int z, .int a]))] := hD
  refine lv_aload_n hx hb dX9_draw_26 rfl (lv_at hl 0 rfl) ?_
  refine lv_aload_n hx hb dX9_draw_27 rfl (lv_at hl 1 rfl) ?_
  refine lv_iconst (v := 5) hx hb dX9_draw_28 (by decide) ?_
  refine ft_csi (r := ftAt 11 sf 5) (va_runSN (As := [.ref b0, .int 5]) (rest := [.ref a0]) ⟨hx, hb, hml, hown, hts⟩ (c_X10_at l D cI cS b0 11 sf 5 (by first | assumption | omega)) ⟨va_cnB 2 hts gX9_draw_X10_at_n33 rfl rfl rfl (hKK.2 _ (List.mem_of_getElem? (i := 17) rfl)) (hts (.initialized RX10) (by decide +kernel)) (by decide +kernel) ⟨Nat.le_of_ble_eq_true rfl, Nat.le_of_ble_eq_true rfl⟩, hts (.static yX10_at) (by decide +kernel), trivial⟩ (ft_preRO hP hKK [2] rfl) rfl rfl hl.1 rfl (lv_room (Nat.le_of_ble_eq_true rfl)) dX9_draw_29 ⟨Nat.le_of_ble_eq_true rfl, Nat.le_of_ble_eq_true rfl⟩) ?_
  refine ft_top (y := sf 5) (ftAt_N (k := 5) (by omega) (by omega)) ?_
  refine va_put (D := D) (ci := 9) (v := .int (sf 5)) (ty := .int) (C := RX9) (T := TX9) (N := 9) hx hb hts (by decide +kernel) tyX9 tyX9_ok nmX9 hown hK hP hD hS 0 rfl rfl 8 (by decide) (hts (.fieldLink RX9 104 "FiberTrace$Trace" "drawnSeed" "I") (by decide +kernel)) (fun _ h9 => h9) rfl (by decide +kernel) rfl rfl (Nat.le_of_ble_eq_true rfl) dX9_draw_32 (fun H locs hP hD hS => ?_)
  have hP : va_P D vwCl [(a0, .inr (9, [.ref ab, .ref ap, .ref an, .ref as, .int (nI N), .int (nI N), .int (sf 3), .int (sf 4), .int (sf 5)])), (an, .inl (cI, 460, .inl fn)), (b0, .inl (cI, 11, .inl sf)), (n0, .inr (6, [.int z, .int a]))] H := hP
  have hD : va_D A [(a0, .inr (9, [.ref ab, .ref ap, .ref an, .ref as, .int (nI N), .int (nI N), .int (sf 3), .int (sf 4), .int (sf 5)])), (an, .inl (cI, 460, .inl fn)), (b0, .inl (cI, 11, .inl sf)), (n0, .inr (6, [.int z, .int a]))] := hD
  refine lv_aload_n hx hb dX9_draw_35 rfl (lv_at hl 2 rfl) ?_
  refine lv_aload_n hx hb dX9_draw_36 rfl (lv_at hl 1 rfl) ?_
  refine ft_cv (wc := [(n0, .inr (6, [.int z, .int a])), (b0, .inl (cI, 11, .inl sf))]) (wr := [(a0, .inr (9, [.ref ab, .ref ap, .ref an, .ref as, .int (nI N), .int (nI N), .int (sf 3), .int (sf 4), .int (sf 5)])), (an, .inl (cI, 460, .inl fn))]) (w1 := [(n0, .inr (6, [.int (sf 5), .int (sf 3)])), (b0, .inl (cI, 11, .inl sf))]) (ws1 := [(a0, .inr (9, [.ref ab, .ref ap, .ref an, .ref as, .int (nI N), .int (nI N), .int (sf 3), .int (sf 4), .int (sf 5)])), (an, .inl (cI, 460, .inl fn)), (b0, .inl (cI, 11, .inl sf)), (n0, .inr (6, [.int (sf 5), .int (sf 3)]))]) (va_runV (C := RX6) (As := [.ref b0]) (rest := []) ⟨hx, hb, hml, hown, hts⟩ (c_X6_begin l D cI cS H.size n0 z a b0 sf) (cwV 1 hts gX9_draw_X6_begin rfl rfl rfl (by decide +kernel) ⟨Nat.le_of_ble_eq_true rfl, Nat.le_of_ble_eq_true rfl⟩) (ft_preRWV (ci := 6) (q0 := 3) hP hD hKK [3, 2] rfl rfl rfl rfl rfl) rfl rfl hl.1 rfl (lv_room (Nat.le_of_ble_eq_true rfl)) dX9_draw_37 ⟨Nat.le_of_ble_eq_true rfl, Nat.le_of_ble_eq_true rfl⟩) hP hD hS hA [3, 2] [0, 1] [0, 1, 3, 2] rfl rfl (by decide) (by decide) (by decide) rfl rfl (fun H locs hP hD hS => ?_)
  have hP : va_P D vwCl [(a0, .inr (9, [.ref ab, .ref ap, .ref an, .ref as, .int (nI N), .int (nI N), .int (sf 3), .int (sf 4), .int (sf 5)])), (an, .inl (cI, 460, .inl fn)), (b0, .inl (cI, 11, .inl sf)), (n0, .inr (6, [.int (sf 5), .int (sf 3)]))] H := hP
  have hD : va_D A [(a0, .inr (9, [.ref ab, .ref ap, .ref an, .ref as, .int (nI N), .int (nI N), .int (sf 3), .int (sf 4), .int (sf 5)])), (an, .inl (cI, 460, .inl fn)), (b0, .inl (cI, 11, .inl sf)), (n0, .inr (6, [.int (sf 5), .int (sf 3)]))] := hD
  refine lv_iconst (v := 0) hx hb dX9_draw_40 (by decide) ?_
  refine lv_istore_n (lv' := [(3, .int 0), (0, .ref a0), (1, .ref b0), (2, .ref n0)]) hx hb dX9_draw_41 rfl hl (by decide) rfl (fun ls hl => ?_)
  have lp42 : ∀ (n42 : Nat) (x : Nat) (x42_3 : Int32) (g42_n0_0 : Int32) (g42_an : Nat → Int32), N - x < n42 → (x ≤ N) → x42_3 = nI x → g42_n0_0 = ftNzs (sf 3) (sf 5) pu x → g42_an = ftFill (ftNoise (sf 3) (sf 5) pu) fn x → ∀ (H : Heap) (locs : List Loc), va_P D vwCl [(a0, .inr (9, [.ref ab, .ref ap, .ref an, .ref as, .int (nI N), .int (nI N), .int (sf 3), .int (sf 4), .int (sf 5)])), (an, .inl (cI, 460, .inl g42_an)), (b0, .inl (cI, 11, .inl sf)), (n0, .inr (6, [.int g42_n0_0, .int (sf 3)]))] H → va_D A [(a0, .inr (9, [.ref ab, .ref ap, .ref an, .ref as, .int (nI N), .int (nI N), .int (sf 3), .int (sf 4), .int (sf 5)])), (an, .inl (cI, 460, .inl g42_an)), (b0, .inl (cI, 11, .inl sf)), (n0, .inr (6, [.int g42_n0_0, .int (sf 3)]))] → va_S A s.heap H locs → ∀ ls : Array Slot, lv_has ls 4 [(0, .ref a0), (1, .ref b0), (2, .ref n0), (3, .int x42_3)] → W p l e (headSpec wsX9_draw { frames := 2, cells := 0, slots := 0, locals := 45 }).room s m ([.ref a0, .ref b0, .ref n0] : List Value).toArray below meth c H locs 0 0 (MQ below (ftQv D [(a0, .inr (9, [.ref ab, .ref ap, .ref an, .ref as, .int (nI N), .int d1, .int d2, .int d3, .int d4])), (an, .inl (cI, 460, .inl fn)), (b0, .inl (cI, 11, .inl sf)), (n0, .inr (6, [.int z, .int a]))] [(a0, .inr (9, [.ref ab, .ref ap, .ref an, .ref as, .int (nI N), .int (nI N), .int (sf 3), .int (sf 4), .int (sf 5)])), (an, .inl (cI, 460, .inl (ftFill (ftNoise (sf 3) (sf 5) pu) fn N))), (b0, .inl (cI, 11, .inl sf)), (n0, .inr (6, [.int (ftNzs (sf 3) (sf 5) pu N), .int (sf 3)]))] s.heap.size) ([.ref a0, .ref b0, .ref n0] : List Value).toArray s 0 0 A) (F0 m 42 ls []) := by
    intro n42
    induction n42 with
    | zero =>
      intro x x42_3 g42_n0_0 g42_an hm42
      exact absurd hm42 (Nat.not_lt_zero _)
    | succ n42 ih42 =>
      intro x x42_3 g42_n0_0 g42_an hm42 hx0 ex42_3 eg42_n0_0 eg42_an H locs hP hD hS ls hl
      subst ex42_3
      refine lv_iload_n hx hb dX9_draw_42 rfl (lv_at hl 3 rfl) ?_
      refine lv_aload_n hx hb dX9_draw_43 rfl (lv_at hl 0 rfl) ?_
      refine va_get (D := D) (ci := 9) (v := .int (nI N)) (C := RX9) (T := TX9) (N := 9) hx hb hts (by decide +kernel) hown hK hP 0 rfl rfl 4 (by decide) (hts (.fieldLink RX9 30 "FiberTrace$Trace" "size" "I") (by decide +kernel)) (fun _ h9 => h9) rfl dX9_draw_44 ?_
      refine lv_icmp_ge (tgt := 72) hx hb dX9_draw_47 (by decide) (fun c47 => ?_) (fun c47 => ?_)
      · have c47n : N ≤ x := ft_leN (by omega) (by omega) c47
        have hw9 : ([(a0, .inr (9, [.ref ab, .ref ap, .ref an, .ref as, .int (nI N), .int (nI N), .int (sf 3), .int (sf 4), .int (sf 5)])), (an, .inl (cI, 460, .inl g42_an)), (b0, .inl (cI, 11, .inl sf)), (n0, .inr (6, [.int g42_n0_0, .int (sf 3)]))] : va_W) = [(a0, .inr (9, [.ref ab, .ref ap, .ref an, .ref as, .int (nI N), .int (nI N), .int (sf 3), .int (sf 4), .int (sf 5)])), (an, .inl (cI, 460, .inl (ftFill (ftNoise (sf 3) (sf 5) pu) fn N))), (b0, .inl (cI, 11, .inl sf)), (n0, .inr (6, [.int (ftNzs (sf 3) (sf 5) pu N), .int (sf 3)]))] := by (obtain rfl : x = N := by omega); rw [eg42_an, eg42_n0_0]
        rw [hw9] at hP hD
        exact W.vret hx hb hr (fun t ht hW => ⟨⟨(), rfl, trivial, by rw [ht]; exact hP, by rw [hAe]; exact hD⟩, by rw [hAe]; exact hS.F ht⟩) hS.2.2 dX9_draw_72
      · have c47n : x < N := ft_nleN (by omega) (by omega) c47
        refine lv_aload_n hx hb dX9_draw_50 rfl (lv_at hl 0 rfl) ?_
        refine va_get (D := D) (ci := 9) (v := .ref an) (C := RX9) (T := TX9) (N := 9) hx hb hts (by decide +kernel) hown hK hP 0 rfl rfl 2 (by decide) (hts (.fieldLink RX9 18 "FiberTrace$Trace" "noise" "[I") (by decide +kernel)) (fun _ h9 => h9) rfl dX9_draw_51 ?_
        refine lv_iload_n hx hb dX9_draw_54 rfl (lv_at hl 3 rfl) ?_
        refine lv_aload_n hx hb dX9_draw_55 rfl (lv_at hl 2 rfl) ?_
        refine lv_aload_n hx hb dX9_draw_56 rfl (lv_at hl 0 rfl) ?_
        refine va_get (D := D) (ci := 9) (v := .int (sf 4)) (C := RX9) (T := TX9) (N := 9) hx hb hts (by decide +kernel) hown hK hP 0 rfl rfl 7 (by decide) (hts (.fieldLink RX9 101 "FiberTrace$Trace" "drawnPulses" "I") (by decide +kernel)) (fun _ h9 => h9) rfl dX9_draw_57 ?_
        refine ft_top (y := nI pu) hpu ?_
        refine ft_ci (r := ftNx (sf 3) g42_n0_0 pu) (wc := [(n0, .inr (6, [.int g42_n0_0, .int (sf 3)]))]) (wr := [(a0, .inr (9, [.ref ab, .ref ap, .ref an, .ref as, .int (nI N), .int (nI N), .int (sf 3), .int (sf 4), .int (sf 5)])), (an, .inl (cI, 460, .inl g42_an)), (b0, .inl (cI, 11, .inl sf))]) (w1 := [(n0, .inr (6, [.int (ftNz (sf 3) g42_n0_0 pu), .int (sf 3)]))]) (ws1 := [(a0, .inr (9, [.ref ab, .ref ap, .ref an, .ref as, .int (nI N), .int (nI N), .int (sf 3), .int (sf 4), .int (sf 5)])), (an, .inl (cI, 460, .inl g42_an)), (b0, .inl (cI, 11, .inl sf)), (n0, .inr (6, [.int (ftNz (sf 3) g42_n0_0 pu), .int (sf 3)]))]) (va_runV (C := RX6) (As := [.int (nI pu)]) (rest := [.int (nI x), .ref an]) ⟨hx, hb, hml, hown, hts⟩ (c_X6_next l D cI cS H.size n0 g42_n0_0 (sf 3) pu (by first | assumption | omega)) (cwV 1 hts gX9_draw_X6_next rfl rfl rfl (by decide +kernel) ⟨Nat.le_of_ble_eq_true rfl, Nat.le_of_ble_eq_true rfl⟩) (ft_preRWV (ci := 6) (q0 := 3) hP hD hKK [3] rfl rfl rfl rfl rfl) rfl rfl hl.1 rfl (lv_room (Nat.le_of_ble_eq_true rfl)) dX9_draw_60 ⟨Nat.le_of_ble_eq_true rfl, Nat.le_of_ble_eq_true rfl⟩) hP hD hS hA [3] [0, 1, 2] [0, 1, 2, 3] rfl rfl (by decide) (by decide) (by decide) rfl rfl (fun H locs hP hD hS => ?_)
        have hP : va_P D vwCl [(a0, .inr (9, [.ref ab, .ref ap, .ref an, .ref as, .int (nI N), .int (nI N), .int (sf 3), .int (sf 4), .int (sf 5)])), (an, .inl (cI, 460, .inl g42_an)), (b0, .inl (cI, 11, .inl sf)), (n0, .inr (6, [.int (ftNz (sf 3) g42_n0_0 pu), .int (sf 3)]))] H := hP
        have hD : va_D A [(a0, .inr (9, [.ref ab, .ref ap, .ref an, .ref as, .int (nI N), .int (nI N), .int (sf 3), .int (sf 4), .int (sf 5)])), (an, .inl (cI, 460, .inl g42_an)), (b0, .inl (cI, 11, .inl sf)), (n0, .inr (6, [.int (ftNz (sf 3) g42_n0_0 pu), .int (sf 3)]))] := hD
        refine ft_cv (wc := [(an, .inl (cI, 460, .inl g42_an))]) (wr := [(a0, .inr (9, [.ref ab, .ref ap, .ref an, .ref as, .int (nI N), .int (nI N), .int (sf 3), .int (sf 4), .int (sf 5)])), (b0, .inl (cI, 11, .inl sf)), (n0, .inr (6, [.int (ftNz (sf 3) g42_n0_0 pu), .int (sf 3)]))]) (w1 := [(an, .inl (cI, 460, .inl (ftPut 460 g42_an (nI x) (ftNx (sf 3) g42_n0_0 pu))))]) (ws1 := [(a0, .inr (9, [.ref ab, .ref ap, .ref an, .ref as, .int (nI N), .int (nI N), .int (sf 3), .int (sf 4), .int (sf 5)])), (an, .inl (cI, 460, .inl (ftPut 460 g42_an (nI x) (ftNx (sf 3) g42_n0_0 pu)))), (b0, .inl (cI, 11, .inl sf)), (n0, .inr (6, [.int (ftNz (sf 3) g42_n0_0 pu), .int (sf 3)]))]) (va_runSN (As := [.ref an, .int (nI x), .int (ftNx (sf 3) g42_n0_0 pu)]) (rest := []) ⟨hx, hb, hml, hown, hts⟩ (c_X10_put l D cI cS H.size an 460 g42_an (nI x) (ftNx (sf 3) g42_n0_0 pu) (by first | assumption | omega)) ⟨va_cnB 3 hts gX9_draw_X10_put_n53 rfl rfl rfl (hKK.2 _ (List.mem_of_getElem? (i := 19) rfl)) (hts (.initialized RX10) (by decide +kernel)) (by decide +kernel) ⟨Nat.le_of_ble_eq_true rfl, Nat.le_of_ble_eq_true rfl⟩, hts (.static yX10_put) (by decide +kernel), trivial⟩ (ft_preRW hP hD hKK [1] rfl rfl rfl) rfl rfl hl.1 rfl (lv_room (Nat.le_of_ble_eq_true rfl)) dX9_draw_63 ⟨Nat.le_of_ble_eq_true rfl, Nat.le_of_ble_eq_true rfl⟩) hP hD hS hA [1] [0, 2, 3] [0, 3, 1, 2] rfl rfl (by decide) (by decide) (by decide) rfl rfl (fun H locs hP hD hS => ?_)
        rw [ftPut_N (k := x) (by omega) (by omega)] at hP hD
        have hP : va_P D vwCl [(a0, .inr (9, [.ref ab, .ref ap, .ref an, .ref as, .int (nI N), .int (nI N), .int (sf 3), .int (sf 4), .int (sf 5)])), (an, .inl (cI, 460, .inl (upd g42_an x (ftNx (sf 3) g42_n0_0 pu)))), (b0, .inl (cI, 11, .inl sf)), (n0, .inr (6, [.int (ftNz (sf 3) g42_n0_0 pu), .int (sf 3)]))] H := hP
        have hD : va_D A [(a0, .inr (9, [.ref ab, .ref ap, .ref an, .ref as, .int (nI N), .int (nI N), .int (sf 3), .int (sf 4), .int (sf 5)])), (an, .inl (cI, 460, .inl (upd g42_an x (ftNx (sf 3) g42_n0_0 pu)))), (b0, .inl (cI, 11, .inl sf)), (n0, .inr (6, [.int (ftNz (sf 3) g42_n0_0 pu), .int (sf 3)]))] := hD
        refine lv_iinc (v := nI (x + 1)) (lv' := [(3, .int (nI (x + 1))), (0, .ref a0), (1, .ref b0), (2, .ref n0)]) hx hb dX9_draw_66 hl (k := 3) rfl (ft_inc x) (by decide) rfl (fun ls hl => ?_)
        refine lv_goto (tgt := 42) hx hb dX9_draw_69 (by decide) ?_
        exact ih42 (x + 1) (nI (x + 1)) (ftNz (sf 3) g42_n0_0 pu) (upd g42_an x (ftNx (sf 3) g42_n0_0 pu)) (by omega) (by omega) (by first | rfl | assumption) (by rw [eg42_n0_0]; rfl) (by rw [eg42_an]; refine ftFill_s ?_; rw [eg42_n0_0]; rfl) _ _ hP hD hS ls (lv_sub hl [1, 2, 3, 0] rfl)
  exact lp42 _ 0 0 (sf 5) fn (Nat.lt_succ_self _) (by omega) (by rfl) (by rfl) (by exact ftFill_0 _ fn) _ _ hP hD hS ls (lv_sub hl [1, 2, 3, 0] rfl)
end
section
set_option maxHeartbeats 4000000 in
set_option maxRecDepth 100000 in
theorem c_X9_make (l : Launch) (D : va_G) (cI cS : ClassId) (sz : Nat) (a0 ab ap an as N : Nat) (d1 d2 d3 d4 : Int32) (fb fp fn fs : Nat → Int32) (b0 ln : Nat) (att en : Int32) (n bk bp bl br : Nat) (kf pf lf : Nat → Int32) (P : Nat → Nat) (c0 ep eh r ef es eg g : Nat) (pe he f1 f2 f3 : Nat → Int32) (w d : Nat) (PP HH PG HG : Nat → Nat) (s0 : Nat) (sf : Nat → Int32) (n0 : Nat) (z a : Int32) (pu : Nat) (hpp : ftPos pf n P) (hln : ln ≤ 400) (hr11 : r ≤ 11) (hg55 : g ≤ 55) (hw : w ≤ 20) (hd : d ≤ 5000) (hrf : ∀ i, i < r → pe i = nI (PP i) ∧ he i = nI (HH i) ∧ PP i ≤ 1000 ∧ 0 < HH i ∧ HH i ≤ 40000) (hgh : ∀ i, i < g → ftGhPl f1 f2 i = nI (PG i) ∧ f3 i = nI (HG i) ∧ PG i ≤ 1000 ∧ 0 < HG i ∧ HG i ≤ 40000) (hs0 : sf 0 = nI w) (hs1 : sf 1 = nI d) (hpu : sf 4 = nI pu) (hpu2 : pu < 2 ^ 31) (hca : (d1 = nI (ln + 60) ∧ d2 = sf 3 ∧ d3 = sf 4 ∧ d4 = sf 5) → ∀ x, x < ln + 60 → fn x = ftNoise (sf 3) (sf 5) pu x) : Met l yX9_make wsX9_make ({ frames := 3, cells := 0, slots := 0, locals := 80 }) (ftRW D cI cS [.ref a0, .ref b0, .ref s0, .ref c0, .ref n0] [(a0, .inr (9, [.ref ab, .ref ap, .ref an, .ref as, .int (nI N), .int d1, .int d2, .int d3, .int d4])), (ab, .inl (cI, 460, .inl fb)), (ap, .inl (cI, 460, .inl fp)), (an, .inl (cI, 460, .inl fn)), (as, .inl (cI, 460, .inl fs)), (b0, .inr (4, [.int (nI ln), .int att, .int en, .int (nI n), .ref bk, .ref bp, .ref bl, .ref br])), (bk, .inl (cI, 10, .inl kf)), (bp, .inl (cI, 10, .inl pf)), (bl, .inl (cI, 10, .inl lf)), (c0, .inr (1, [.ref ep, .ref eh, .int (nI r), .ref ef, .ref es, .ref eg, .int (nI g)])), (ep, .inl (cI, 11, .inl pe)), (eh, .inl (cI, 11, .inl he)), (ef, .inl (cI, 55, .inl f1)), (es, .inl (cI, 55, .inl f2)), (eg, .inl (cI, 55, .inl f3)), (s0, .inl (cI, 11, .inl sf)), (n0, .inr (6, [.int z, .int a]))] sz) (ftQv D [(a0, .inr (9, [.ref ab, .ref ap, .ref an, .ref as, .int (nI N), .int d1, .int d2, .int d3, .int d4])), (ab, .inl (cI, 460, .inl fb)), (ap, .inl (cI, 460, .inl fp)), (an, .inl (cI, 460, .inl fn)), (as, .inl (cI, 460, .inl fs)), (b0, .inr (4, [.int (nI ln), .int att, .int en, .int (nI n), .ref bk, .ref bp, .ref bl, .ref br])), (bk, .inl (cI, 10, .inl kf)), (bp, .inl (cI, 10, .inl pf)), (bl, .inl (cI, 10, .inl lf)), (c0, .inr (1, [.ref ep, .ref eh, .int (nI r), .ref ef, .ref es, .ref eg, .int (nI g)])), (ep, .inl (cI, 11, .inl pe)), (eh, .inl (cI, 11, .inl he)), (ef, .inl (cI, 55, .inl f1)), (es, .inl (cI, 55, .inl f2)), (eg, .inl (cI, 55, .inl f3)), (s0, .inl (cI, 11, .inl sf)), (n0, .inr (6, [.int z, .int a]))] [(a0, .inr (9, [.ref ab, .ref ap, .ref an, .ref as, .int (nI (ln + 60)), .int (nI (ln + 60)), .int (sf 3), .int (sf 4), .int (sf 5)])), (ab, .inl (cI, 460, .inl (ftFill (ftBase ln kf pf lf att n (sf 0)) fb (ln + 60)))), (ap, .inl (cI, 460, .inl (ftPeaks PP HH PG HG r g w d (ln + 60) fp))), (an, .inl (cI, 460, .inl (ftFill (ftNoise (sf 3) (sf 5) pu) fn (ln + 60)))), (as, .inl (cI, 460, .inl (ftFill (ftSamp ln kf pf lf att n sf (ftPeaks PP HH PG HG r g w d (ln + 60) fp) pu) fs (ln + 60)))), (b0, .inr (4, [.int (nI ln), .int att, .int en, .int (nI n), .ref bk, .ref bp, .ref bl, .ref br])), (bk, .inl (cI, 10, .inl kf)), (bp, .inl (cI, 10, .inl pf)), (bl, .inl (cI, 10, .inl lf)), (c0, .inr (1, [.ref ep, .ref eh, .int (nI r), .ref ef, .ref es, .ref eg, .int (nI g)])), (ep, .inl (cI, 11, .inl pe)), (eh, .inl (cI, 11, .inl he)), (ef, .inl (cI, 55, .inl f1)), (es, .inl (cI, 55, .inl f2)), (eg, .inl (cI, 55, .inl f3)), (s0, .inl (cI, 11, .inl sf)), (n0, .inr (6, [.int (ftIte (d1 = nI (ln + 60) ∧ d2 = sf 3 ∧ d3 = sf 4 ∧ d4 = sf 5) z (ftNzs (sf 3) (sf 5) pu (ln + 60))), .int (ftIte (d1 = nI (ln + 60) ∧ d2 = sf 3 ∧ d3 = sf 4 ∧ d4 = sf 5) a (sf 3))]))] sz) 0 0 (va_A [(a0, .inr (9, [.ref ab, .ref ap, .ref an, .ref as, .int (nI N), .int d1, .int d2, .int d3, .int d4])), (ab, .inl (cI, 460, .inl fb)), (ap, .inl (cI, 460, .inl fp)), (an, .inl (cI, 460, .inl fn)), (as, .inl (cI, 460, .inl fs)), (b0, .inr (4, [.int (nI ln), .int att, .int en, .int (nI n), .ref bk, .ref bp, .ref bl, .ref br])), (bk, .inl (cI, 10, .inl kf)), (bp, .inl (cI, 10, .inl pf)), (bl, .inl (cI, 10, .inl lf)), (c0, .inr (1, [.ref ep, .ref eh, .int (nI r), .ref ef, .ref es, .ref eg, .int (nI g)])), (ep, .inl (cI, 11, .inl pe)), (eh, .inl (cI, 11, .inl he)), (ef, .inl (cI, 55, .inl f1)), (es, .inl (cI, 55, .inl f2)), (eg, .inl (cI, 55, .inl f3)), (s0, .inl (cI, 11, .inl sf)), (n0, .inr (6, [.int z, .int a]))] sz) := by
  refine Met.ofW (cc := cX9_make) (maxL := 6) (ret := none) (by decide) rfl ?_
  intro p e s m args below meth c s₁ B hml hv
  obtain ⟨rfl, hsz, hP, hKK, hD0⟩ := hv
  have hK := hKK.1
  have hx := B.exec
  have hb := B.bytes
  have hr := B.returns
  have hts := atoms_spec (ws := wsX9_make) B.pre
  have hown : s.vm.findClass RX9 = some m.cls := findClass_of_methodNamed B.named
  have hlocks := B.notSynchronized
  subst hsz
  have hD := hD0.self (sz := s.heap.size)
  generalize hAe : va_A [(a0, .inr (9, [.ref ab, .ref ap, .ref an, .ref as, .int (nI N), .int d1, .int d2, .int d3, .int d4])), (ab, .inl (cI, 460, .inl fb)), (ap, .inl (cI, 460, .inl fp)), (an, .inl (cI, 460, .inl fn)), (as, .inl (cI, 460, .inl fs)), (b0, .inr (4, [.int (nI ln), .int att, .int en, .int (nI n), .ref bk, .ref bp, .ref bl, .ref br])), (bk, .inl (cI, 10, .inl kf)), (bp, .inl (cI, 10, .inl pf)), (bl, .inl (cI, 10, .inl lf)), (c0, .inr (1, [.ref ep, .ref eh, .int (nI r), .ref ef, .ref es, .ref eg, .int (nI g)])), (ep, .inl (cI, 11, .inl pe)), (eh, .inl (cI, 11, .inl he)), (ef, .inl (cI, 55, .inl f1)), (es, .inl (cI, 55, .inl f2)), (eg, .inl (cI, 55, .inl f3)), (s0, .inl (cI, 11, .inl sf)), (n0, .inr (6, [.int z, .int a]))] s.heap.size = A at hD ⊢
  have hA : ∀ q : Nat, s.heap.size ≤ q → A q := fun q h => by rw [← hAe]; exact Or.inr h
  have hS : va_S A s.heap s.heap [] := va_S.rf
  have hD : va_D A [(a0, .inr (9, [.ref ab, .ref ap, .ref an, .ref as, .int (nI N), .int d1, .int d2, .int d3, .int d4])), (ab, .inl (cI, 460, .inl fb)), (ap, .inl (cI, 460, .inl fp)), (an, .inl (cI, 460, .inl fn)), (as, .inl (cI, 460, .inl fs)), (b0, .inr (4, [.int (nI ln), .int att, .int en, .int (nI n), .ref bk, .ref bp, .ref bl, .ref br])), (bk, .inl (cI, 10, .inl kf)), (bp, .inl (cI, 10, .inl pf)), (bl, .inl (cI, 10, .inl lf)), (c0, .inr (1, [.ref ep, .ref eh, .int (nI r), .ref ef, .ref es, .ref eg, .int (nI g)])), (ep, .inl (cI, 11, .inl pe)), (eh, .inl (cI, 11, .inl he)), (ef, .inl (cI, 55, .inl f1)), (es, .inl (cI, 55, .inl f2)), (eg, .inl (cI, 55, .inl f3)), (s0, .inl (cI, 11, .inl sf)), (n0, .inr (6, [.int z, .int a]))] := hD
  have hP : va_P D vwCl [(a0, .inr (9, [.ref ab, .ref ap, .ref an, .ref as, .int (nI N), .int d1, .int d2, .int d3, .int d4])), (ab, .inl (cI, 460, .inl fb)), (ap, .inl (cI, 460, .inl fp)), (an, .inl (cI, 460, .inl fn)), (as, .inl (cI, 460, .inl fs)), (b0, .inr (4, [.int (nI ln), .int att, .int en, .int (nI n), .ref bk, .ref bp, .ref bl, .ref br])), (bk, .inl (cI, 10, .inl kf)), (bp, .inl (cI, 10, .inl pf)), (bl, .inl (cI, 10, .inl lf)), (c0, .inr (1, [.ref ep, .ref eh, .int (nI r), .ref ef, .ref es, .ref eg, .int (nI g)])), (ep, .inl (cI, 11, .inl pe)), (eh, .inl (cI, 11, .inl he)), (ef, .inl (cI, 55, .inl f1)), (es, .inl (cI, 55, .inl f2)), (eg, .inl (cI, 55, .inl f3)), (s0, .inl (cI, 11, .inl sf)), (n0, .inr (6, [.int z, .int a]))] s.heap := hP
  have hl := lv_entry ([.ref a0, .ref b0, .ref s0, .ref c0, .ref n0]) (n := 6) (Nat.le_of_ble_eq_true rfl)
  rw [lg_entry_eq]
  generalize (lg_sl ([.ref a0, .ref b0, .ref s0, .ref c0, .ref n0]) ++ List.replicate (6 - (lg_sl ([.ref a0, .ref b0, .ref s0, .ref c0, .ref n0])).length) Slot.unset).toArray = ls at hl ⊢
  have hl : lv_has ls 6 [(0, .ref a0), (1, .ref b0), (2, .ref s0), (3, .ref c0), (4, .ref n0)] := hl
  refine lv_aload_n hx hb dX9_make_0 rfl (lv_at hl 0 rfl) ?_
  refine lv_aload_n hx hb dX9_make_1 rfl (lv_at hl 1 rfl) ?_
  refine va_get (D := D) (ci := 4) (v := .int (nI ln)) (C := RX4) (T := TX4) (N := 8) hx hb hts (by decide +kernel) hown hK hP 5 rfl rfl 0 (by decide) (hts (.fieldLink RX9 24 "FiberTrace$Link" "length" "I") (by decide +kernel)) (fun _ h9 => h9) rfl dX9_make_2 ?_
  refine lv_bipush (v := 60) hx hb dX9_make_5 (by decide) ?_
  refine lv_iadd hx hb dX9_make_7 ?_
  refine ft_top (y := nI (ln + 60)) (ft_addN ln 60) ?_
  refine va_put (D := D) (ci := 9) (v := .int (nI (ln + 60))) (ty := .int) (C := RX9) (T := TX9) (N := 9) hx hb hts (by decide +kernel) tyX9 tyX9_ok nmX9 hown hK hP hD hS 0 rfl rfl 4 (by decide) (hts (.fieldLink RX9 30 "FiberTrace$Trace" "size" "I") (by decide +kernel)) (fun _ h9 => h9) rfl (by decide +kernel) rfl rfl (Nat.le_of_ble_eq_true rfl) dX9_make_8 (fun H locs hP hD hS => ?_)
  have hP : va_P D vwCl [(a0, .inr (9, [.ref ab, .ref ap, .ref an, .ref as, .int (nI (ln + 60)), .int d1, .int d2, .int d3, .int d4])), (ab, .inl (cI, 460, .inl fb)), (ap, .inl (cI, 460, .inl fp)), (an, .inl (cI, 460, .inl fn)), (as, .inl (cI, 460, .inl fs)), (b0, .inr (4, [.int (nI ln), .int att, .int en, .int (nI n), .ref bk, .ref bp, .ref bl, .ref br])), (bk, .inl (cI, 10, .inl kf)), (bp, .inl (cI, 10, .inl pf)), (bl, .inl (cI, 10, .inl lf)), (c0, .inr (1, [.ref ep, .ref eh, .int (nI r), .ref ef, .ref es, .ref eg, .int (nI g)])), (ep, .inl (cI, 11, .inl pe)), (eh, .inl (cI, 11, .inl he)), (ef, .inl (cI, 55, .inl f1)), (es, .inl (cI, 55, .inl f2)), (eg, .inl (cI, 55, .inl f3)), (s0, .inl (cI, 11, .inl sf)), (n0, .inr (6, [.int z, .int a]))] H := hP
  have hD : va_D A [(a0, .inr (9, [.ref ab, .ref ap, .ref an, .ref as, .int (nI (ln + 60)), .int d1, .int d2, .int d3, .int d4])), (ab, .inl (cI, 460, .inl fb)), (ap, .inl (cI, 460, .inl fp)), (an, .inl (cI, 460, .inl fn)), (as, .inl (cI, 460, .inl fs)), (b0, .inr (4, [.int (nI ln), .int att, .int en, .int (nI n), .ref bk, .ref bp, .ref bl, .ref br])), (bk, .inl (cI, 10, .inl kf)), (bp, .inl (cI, 10, .inl pf)), (bl, .inl (cI, 10, .inl lf)), (c0, .inr (1, [.ref ep, .ref eh, .int (nI r), .ref ef, .ref es, .ref eg, .int (nI g)])), (ep, .inl (cI, 11, .inl pe)), (eh, .inl (cI, 11, .inl he)), (ef, .inl (cI, 55, .inl f1)), (es, .inl (cI, 55, .inl f2)), (eg, .inl (cI, 55, .inl f3)), (s0, .inl (cI, 11, .inl sf)), (n0, .inr (6, [.int z, .int a]))] := hD
  refine lv_aload_n hx hb dX9_make_11 rfl (lv_at hl 0 rfl) ?_
  refine lv_aload_n hx hb dX9_make_12 rfl (lv_at hl 1 rfl) ?_
  refine lv_aload_n hx hb dX9_make_13 rfl (lv_at hl 2 rfl) ?_
  refine lv_iconst (v := 0) hx hb dX9_make_14 (by decide) ?_
  refine ft_csi (r := ftAt 11 sf 0) (va_runSN (As := [.ref s0, .int 0]) (rest := [.ref b0, .ref a0]) ⟨hx, hb, hml, hown, hts⟩ (c_X10_at l D cI cS s0 11 sf 0 (by first | assumption | omega)) ⟨va_cnB 2 hts gX9_make_X10_at_n33 rfl rfl rfl (hKK.2 _ (List.mem_of_getElem? (i := 17) rfl)) (hts (.initialized RX10) (by decide +kernel)) (by decide +kernel) ⟨Nat.le_of_ble_eq_true rfl, Nat.le_of_ble_eq_true rfl⟩, hts (.static yX10_at) (by decide +kernel), trivial⟩ (ft_preRO hP hKK [15] rfl) rfl rfl hl.1 rfl (lv_room (Nat.le_of_ble_eq_true rfl)) dX9_make_15 ⟨Nat.le_of_ble_eq_true rfl, Nat.le_of_ble_eq_true rfl⟩) ?_
  refine ft_top (y := sf 0) (ftAt_N (k := 0) (by omega) (by omega)) ?_
  refine ft_cv (wc := [(a0, .inr (9, [.ref ab, .ref ap, .ref an, .ref as, .int (nI (ln + 60)), .int d1, .int d2, .int d3, .int d4])), (ab, .inl (cI, 460, .inl fb)), (b0, .inr (4, [.int (nI ln), .int att, .int en, .int (nI n), .ref bk, .ref bp, .ref bl, .ref br])), (bk, .inl (cI, 10, .inl kf)), (bp, .inl (cI, 10, .inl pf)), (bl, .inl (cI, 10, .inl lf))]) (wr := [(ap, .inl (cI, 460, .inl fp)), (an, .inl (cI, 460, .inl fn)), (as, .inl (cI, 460, .inl fs)), (c0, .inr (1, [.ref ep, .ref eh, .int (nI r), .ref ef, .ref es, .ref eg, .int (nI g)])), (ep, .inl (cI, 11, .inl pe)), (eh, .inl (cI, 11, .inl he)), (ef, .inl (cI, 55, .inl f1)), (es, .inl (cI, 55, .inl f2)), (eg, .inl (cI, 55, .inl f3)), (s0, .inl (cI, 11, .inl sf)), (n0, .inr (6, [.int z, .int a]))]) (w1 := [(a0, .inr (9, [.ref ab, .ref ap, .ref an, .ref as, .int (nI (ln + 60)), .int d1, .int d2, .int d3, .int d4])), (ab, .inl (cI, 460, .inl (ftFill (ftBase ln kf pf lf att n (sf 0)) fb (ln + 60)))), (b0, .inr (4, [.int (nI ln), .int att, .int en, .int (nI n), .ref bk, .ref bp, .ref bl, .ref br])), (bk, .inl (cI, 10, .inl kf)), (bp, .inl (cI, 10, .inl pf)), (bl, .inl (cI, 10, .inl lf))]) (ws1 := [(a0, .inr (9, [.ref ab, .ref ap, .ref an, .ref as, .int (nI (ln + 60)), .int d1, .int d2, .int d3, .int d4])), (ab, .inl (cI, 460, .inl (ftFill (ftBase ln kf pf lf att n (sf 0)) fb (ln + 60)))), (ap, .inl (cI, 460, .inl fp)), (an, .inl (cI, 460, .inl fn)), (as, .inl (cI, 460, .inl fs)), (b0, .inr (4, [.int (nI ln), .int att, .int en, .int (nI n), .ref bk, .ref bp, .ref bl, .ref br])), (bk, .inl (cI, 10, .inl kf)), (bp, .inl (cI, 10, .inl pf)), (bl, .inl (cI, 10, .inl lf)), (c0, .inr (1, [.ref ep, .ref eh, .int (nI r), .ref ef, .ref es, .ref eg, .int (nI g)])), (ep, .inl (cI, 11, .inl pe)), (eh, .inl (cI, 11, .inl he)), (ef, .inl (cI, 55, .inl f1)), (es, .inl (cI, 55, .inl f2)), (eg, .inl (cI, 55, .inl f3)), (s0, .inl (cI, 11, .inl sf)), (n0, .inr (6, [.int z, .int a]))]) (va_runV (C := RX9) (As := [.ref b0, .int (sf 0)]) (rest := []) ⟨hx, hb, hml, hown, hts⟩ (c_X9_makeBase l D cI cS H.size a0 ab ap an as (ln + 60) d1 d2 d3 d4 fb b0 ln att en n bk bp bl br kf pf lf P (sf 0) (by first | assumption | omega) (by first | assumption | omega) (by first | assumption | omega)) (cwV 2 hts gX9_make_X9_makeBase rfl rfl rfl (by decide +kernel) ⟨Nat.le_of_ble_eq_true rfl, Nat.le_of_ble_eq_true rfl⟩) (ft_preRWV (ci := 9) (q0 := 0) hP hD hKK [0, 1, 5, 6, 7, 8] rfl rfl rfl rfl rfl) rfl rfl hl.1 rfl (lv_room (Nat.le_of_ble_eq_true rfl)) dX9_make_18 ⟨Nat.le_of_ble_eq_true rfl, Nat.le_of_ble_eq_true rfl⟩) hP hD hS hA [0, 1, 5, 6, 7, 8] [2, 3, 4, 9, 10, 11, 12, 13, 14, 15, 16] [11, 12, 0, 1, 2, 13, 14, 15, 16, 3, 4, 5, 6, 7, 8, 9, 10] rfl rfl (by decide) (by decide) (by decide) rfl rfl (fun H locs hP hD hS => ?_)
  have hP : va_P D vwCl [(a0, .inr (9, [.ref ab, .ref ap, .ref an, .ref as, .int (nI (ln + 60)), .int d1, .int d2, .int d3, .int d4])), (ab, .inl (cI, 460, .inl (ftFill (ftBase ln kf pf lf att n (sf 0)) fb (ln + 60)))), (ap, .inl (cI, 460, .inl fp)), (an, .inl (cI, 460, .inl fn)), (as, .inl (cI, 460, .inl fs)), (b0, .inr (4, [.int (nI ln), .int att, .int en, .int (nI n), .ref bk, .ref bp, .ref bl, .ref br])), (bk, .inl (cI, 10, .inl kf)), (bp, .inl (cI, 10, .inl pf)), (bl, .inl (cI, 10, .inl lf)), (c0, .inr (1, [.ref ep, .ref eh, .int (nI r), .ref ef, .ref es, .ref eg, .int (nI g)])), (ep, .inl (cI, 11, .inl pe)), (eh, .inl (cI, 11, .inl he)), (ef, .inl (cI, 55, .inl f1)), (es, .inl (cI, 55, .inl f2)), (eg, .inl (cI, 55, .inl f3)), (s0, .inl (cI, 11, .inl sf)), (n0, .inr (6, [.int z, .int a]))] H := hP
  have hD : va_D A [(a0, .inr (9, [.ref ab, .ref ap, .ref an, .ref as, .int (nI (ln + 60)), .int d1, .int d2, .int d3, .int d4])), (ab, .inl (cI, 460, .inl (ftFill (ftBase ln kf pf lf att n (sf 0)) fb (ln + 60)))), (ap, .inl (cI, 460, .inl fp)), (an, .inl (cI, 460, .inl fn)), (as, .inl (cI, 460, .inl fs)), (b0, .inr (4, [.int (nI ln), .int att, .int en, .int (nI n), .ref bk, .ref bp, .ref bl, .ref br])), (bk, .inl (cI, 10, .inl kf)), (bp, .inl (cI, 10, .inl pf)), (bl, .inl (cI, 10, .inl lf)), (c0, .inr (1, [.ref ep, .ref eh, .int (nI r), .ref ef, .ref es, .ref eg, .int (nI g)])), (ep, .inl (cI, 11, .inl pe)), (eh, .inl (cI, 11, .inl he)), (ef, .inl (cI, 55, .inl f1)), (es, .inl (cI, 55, .inl f2)), (eg, .inl (cI, 55, .inl f3)), (s0, .inl (cI, 11, .inl sf)), (n0, .inr (6, [.int z, .int a]))] := hD
  refine lv_aload_n hx hb dX9_make_21 rfl (lv_at hl 0 rfl) ?_
  refine lv_aload_n hx hb dX9_make_22 rfl (lv_at hl 3 rfl) ?_
  refine lv_aload_n hx hb dX9_make_23 rfl (lv_at hl 2 rfl) ?_
  refine lv_iconst (v := 0) hx hb dX9_make_24 (by decide) ?_
  refine ft_csi (r := ftAt 11 sf 0) (va_runSN (As := [.ref s0, .int 0]) (rest := [.ref c0, .ref a0]) ⟨hx, hb, hml, hown, hts⟩ (c_X10_at l D cI cS s0 11 sf 0 (by first | assumption | omega)) ⟨va_cnB 2 hts gX9_make_X10_at_n33 rfl rfl rfl (hKK.2 _ (List.mem_of_getElem? (i := 17) rfl)) (hts (.initialized RX10) (by decide +kernel)) (by decide +kernel) ⟨Nat.le_of_ble_eq_true rfl, Nat.le_of_ble_eq_true rfl⟩, hts (.static yX10_at) (by decide +kernel), trivial⟩ (ft_preRO hP hKK [15] rfl) rfl rfl hl.1 rfl (lv_room (Nat.le_of_ble_eq_true rfl)) dX9_make_25 ⟨Nat.le_of_ble_eq_true rfl, Nat.le_of_ble_eq_true rfl⟩) ?_
  refine ft_top (y := sf 0) (ftAt_N (k := 0) (by omega) (by omega)) ?_
  refine ft_top (y := nI w) hs0 ?_
  refine lv_aload_n hx hb dX9_make_28 rfl (lv_at hl 2 rfl) ?_
  refine lv_iconst (v := 1) hx hb dX9_make_29 (by decide) ?_
  refine ft_csi (r := ftAt 11 sf 1) (va_runSN (As := [.ref s0, .int 1]) (rest := [.int (nI w), .ref c0, .ref a0]) ⟨hx, hb, hml, hown, hts⟩ (c_X10_at l D cI cS s0 11 sf 1 (by first | assumption | omega)) ⟨va_cnB 2 hts gX9_make_X10_at_n33 rfl rfl rfl (hKK.2 _ (List.mem_of_getElem? (i := 17) rfl)) (hts (.initialized RX10) (by decide +kernel)) (by decide +kernel) ⟨Nat.le_of_ble_eq_true rfl, Nat.le_of_ble_eq_true rfl⟩, hts (.static yX10_at) (by decide +kernel), trivial⟩ (ft_preRO hP hKK [15] rfl) rfl rfl hl.1 rfl (lv_room (Nat.le_of_ble_eq_true rfl)) dX9_make_30 ⟨Nat.le_of_ble_eq_true rfl, Nat.le_of_ble_eq_true rfl⟩) ?_
  refine ft_top (y := sf 1) (ftAt_N (k := 1) (by omega) (by omega)) ?_
  refine ft_top (y := nI d) hs1 ?_
  refine ft_cv (wc := [(a0, .inr (9, [.ref ab, .ref ap, .ref an, .ref as, .int (nI (ln + 60)), .int d1, .int d2, .int d3, .int d4])), (ap, .inl (cI, 460, .inl fp)), (c0, .inr (1, [.ref ep, .ref eh, .int (nI r), .ref ef, .ref es, .ref eg, .int (nI g)])), (ep, .inl (cI, 11, .inl pe)), (eh, .inl (cI, 11, .inl he)), (ef, .inl (cI, 55, .inl f1)), (es, .inl (cI, 55, .inl f2)), (eg, .inl (cI, 55, .inl f3))]) (wr := [(ab, .inl (cI, 460, .inl (ftFill (ftBase ln kf pf lf att n (sf 0)) fb (ln + 60)))), (an, .inl (cI, 460, .inl fn)), (as, .inl (cI, 460, .inl fs)), (b0, .inr (4, [.int (nI ln), .int att, .int en, .int (nI n), .ref bk, .ref bp, .ref bl, .ref br])), (bk, .inl (cI, 10, .inl kf)), (bp, .inl (cI, 10, .inl pf)), (bl, .inl (cI, 10, .inl lf)), (s0, .inl (cI, 11, .inl sf)), (n0, .inr (6, [.int z, .int a]))]) (w1 := [(a0, .inr (9, [.ref ab, .ref ap, .ref an, .ref as, .int (nI (ln + 60)), .int d1, .int d2, .int d3, .int d4])), (ap, .inl (cI, 460, .inl (ftPks PG HG w d (ln + 60) (ftPks PP HH w d (ln + 60) (ftFill (fun _ => 0) fp (ln + 60)) r) g))), (c0, .inr (1, [.ref ep, .ref eh, .int (nI r), .ref ef, .ref es, .ref eg, .int (nI g)])), (ep, .inl (cI, 11, .inl pe)), (eh, .inl (cI, 11, .inl he)), (ef, .inl (cI, 55, .inl f1)), (es, .inl (cI, 55, .inl f2)), (eg, .inl (cI, 55, .inl f3))]) (ws1 := [(a0, .inr (9, [.ref ab, .ref ap, .ref an, .ref as, .int (nI (ln + 60)), .int d1, .int d2, .int d3, .int d4])), (ab, .inl (cI, 460, .inl (ftFill (ftBase ln kf pf lf att n (sf 0)) fb (ln + 60)))), (ap, .inl (cI, 460, .inl (ftPks PG HG w d (ln + 60) (ftPks PP HH w d (ln + 60) (ftFill (fun _ => 0) fp (ln + 60)) r) g))), (an, .inl (cI, 460, .inl fn)), (as, .inl (cI, 460, .inl fs)), (b0, .inr (4, [.int (nI ln), .int att, .int en, .int (nI n), .ref bk, .ref bp, .ref bl, .ref br])), (bk, .inl (cI, 10, .inl kf)), (bp, .inl (cI, 10, .inl pf)), (bl, .inl (cI, 10, .inl lf)), (c0, .inr (1, [.ref ep, .ref eh, .int (nI r), .ref ef, .ref es, .ref eg, .int (nI g)])), (ep, .inl (cI, 11, .inl pe)), (eh, .inl (cI, 11, .inl he)), (ef, .inl (cI, 55, .inl f1)), (es, .inl (cI, 55, .inl f2)), (eg, .inl (cI, 55, .inl f3)), (s0, .inl (cI, 11, .inl sf)), (n0, .inr (6, [.int z, .int a]))]) (va_runV (C := RX9) (As := [.ref c0, .int (nI w), .int (nI d)]) (rest := []) ⟨hx, hb, hml, hown, hts⟩ (c_X9_makePeaks l D cI cS H.size a0 ab ap an as (ln + 60) d1 d2 d3 d4 fp c0 ep eh r ef es eg g pe he f1 f2 f3 w d PP HH PG HG (by omega) hr11 hg55 hw hd hrf hgh) (cwV 3 hts gX9_make_X9_makePeaks rfl rfl rfl (by decide +kernel) ⟨Nat.le_of_ble_eq_true rfl, Nat.le_of_ble_eq_true rfl⟩) (ft_preRWV (ci := 9) (q0 := 0) hP hD hKK [0, 2, 9, 10, 11, 12, 13, 14] rfl rfl rfl rfl rfl) rfl rfl hl.1 rfl (lv_room (Nat.le_of_ble_eq_true rfl)) dX9_make_33 ⟨Nat.le_of_ble_eq_true rfl, Nat.le_of_ble_eq_true rfl⟩) hP hD hS hA [0, 2, 9, 10, 11, 12, 13, 14] [1, 3, 4, 5, 6, 7, 8, 15, 16] [9, 0, 10, 1, 2, 3, 4, 5, 6, 11, 12, 13, 14, 15, 16, 7, 8] rfl rfl (by decide) (by decide) (by decide) rfl rfl (fun H locs hP hD hS => ?_)
  have hP : va_P D vwCl [(a0, .inr (9, [.ref ab, .ref ap, .ref an, .ref as, .int (nI (ln + 60)), .int d1, .int d2, .int d3, .int d4])), (ab, .inl (cI, 460, .inl (ftFill (ftBase ln kf pf lf att n (sf 0)) fb (ln + 60)))), (ap, .inl (cI, 460, .inl (ftPks PG HG w d (ln + 60) (ftPks PP HH w d (ln + 60) (ftFill (fun _ => 0) fp (ln + 60)) r) g))), (an, .inl (cI, 460, .inl fn)), (as, .inl (cI, 460, .inl fs)), (b0, .inr (4, [.int (nI ln), .int att, .int en, .int (nI n), .ref bk, .ref bp, .ref bl, .ref br])), (bk, .inl (cI, 10, .inl kf)), (bp, .inl (cI, 10, .inl pf)), (bl, .inl (cI, 10, .inl lf)), (c0, .inr (1, [.ref ep, .ref eh, .int (nI r), .ref ef, .ref es, .ref eg, .int (nI g)])), (ep, .inl (cI, 11, .inl pe)), (eh, .inl (cI, 11, .inl he)), (ef, .inl (cI, 55, .inl f1)), (es, .inl (cI, 55, .inl f2)), (eg, .inl (cI, 55, .inl f3)), (s0, .inl (cI, 11, .inl sf)), (n0, .inr (6, [.int z, .int a]))] H := hP
  have hD : va_D A [(a0, .inr (9, [.ref ab, .ref ap, .ref an, .ref as, .int (nI (ln + 60)), .int d1, .int d2, .int d3, .int d4])), (ab, .inl (cI, 460, .inl (ftFill (ftBase ln kf pf lf att n (sf 0)) fb (ln + 60)))), (ap, .inl (cI, 460, .inl (ftPks PG HG w d (ln + 60) (ftPks PP HH w d (ln + 60) (ftFill (fun _ => 0) fp (ln + 60)) r) g))), (an, .inl (cI, 460, .inl fn)), (as, .inl (cI, 460, .inl fs)), (b0, .inr (4, [.int (nI ln), .int att, .int en, .int (nI n), .ref bk, .ref bp, .ref bl, .ref br])), (bk, .inl (cI, 10, .inl kf)), (bp, .inl (cI, 10, .inl pf)), (bl, .inl (cI, 10, .inl lf)), (c0, .inr (1, [.ref ep, .ref eh, .int (nI r), .ref ef, .ref es, .ref eg, .int (nI g)])), (ep, .inl (cI, 11, .inl pe)), (eh, .inl (cI, 11, .inl he)), (ef, .inl (cI, 55, .inl f1)), (es, .inl (cI, 55, .inl f2)), (eg, .inl (cI, 55, .inl f3)), (s0, .inl (cI, 11, .inl sf)), (n0, .inr (6, [.int z, .int a]))] := hD
  refine lv_aload_n hx hb dX9_make_36 rfl (lv_at hl 0 rfl) ?_
  refine lv_aload_n hx hb dX9_make_37 rfl (lv_at hl 2 rfl) ?_
  refine ft_csi (r := ftB (d1 = nI (ln + 60) ∧ d2 = sf 3 ∧ d3 = sf 4 ∧ d4 = sf 5)) (va_runV (C := RX9) (As := [.ref s0]) (rest := []) ⟨hx, hb, hml, hown, hts⟩ (c_X9_isDrawnFor l D cI cS a0 ab ap an as (ln + 60) d1 d2 d3 d4 s0 sf) (cwV 1 hts gX9_make_X9_isDrawnFor rfl rfl rfl (by decide +kernel) ⟨Nat.le_of_ble_eq_true rfl, Nat.le_of_ble_eq_true rfl⟩) (ft_preROV (ci := 9) (q0 := 0) hP hKK [0, 15] rfl rfl rfl) rfl rfl hl.1 rfl (lv_room (Nat.le_of_ble_eq_true rfl)) dX9_make_38 ⟨Nat.le_of_ble_eq_true rfl, Nat.le_of_ble_eq_true rfl⟩) ?_
  refine lv_if_ne (tgt := 51) hx hb dX9_make_41 (by decide) (fun c41 => ?_) (fun c41 => ?_)
  · replace c41 := ftB_ne c41
    refine lv_iconst (v := 0) hx hb dX9_make_51 (by decide) ?_
    refine lv_istore (lv' := [(5, .int 0), (0, .ref a0), (1, .ref b0), (2, .ref s0), (3, .ref c0), (4, .ref n0)]) hx hb dX9_make_52 hl (by decide) rfl (fun ls hl => ?_)
    have lp54 : ∀ (n54 : Nat) (x : Nat) (x54_5 : Int32) (g54_as : Nat → Int32), ln + 60 - x < n54 → (x ≤ ln + 60) → x54_5 = nI x → g54_as = ftFill (ftSamp ln kf pf lf att n sf (ftPeaks PP HH PG HG r g w d (ln + 60) fp) pu) fs x → ∀ (H : Heap) (locs : List Loc), va_P D vwCl [(a0, .inr (9, [.ref ab, .ref ap, .ref an, .ref as, .int (nI (ln + 60)), .int d1, .int d2, .int d3, .int d4])), (ab, .inl (cI, 460, .inl (ftFill (ftBase ln kf pf lf att n (sf 0)) fb (ln + 60)))), (ap, .inl (cI, 460, .inl (ftPks PG HG w d (ln + 60) (ftPks PP HH w d (ln + 60) (ftFill (fun _ => 0) fp (ln + 60)) r) g))), (an, .inl (cI, 460, .inl fn)), (as, .inl (cI, 460, .inl g54_as)), (b0, .inr (4, [.int (nI ln), .int att, .int en, .int (nI n), .ref bk, .ref bp, .ref bl, .ref br])), (bk, .inl (cI, 10, .inl kf)), (bp, .inl (cI, 10, .inl pf)), (bl, .inl (cI, 10, .inl lf)), (c0, .inr (1, [.ref ep, .ref eh, .int (nI r), .ref ef, .ref es, .ref eg, .int (nI g)])), (ep, .inl (cI, 11, .inl pe)), (eh, .inl (cI, 11, .inl he)), (ef, .inl (cI, 55, .inl f1)), (es, .inl (cI, 55, .inl f2)), (eg, .inl (cI, 55, .inl f3)), (s0, .inl (cI, 11, .inl sf)), (n0, .inr (6, [.int z, .int a]))] H → va_D A [(a0, .inr (9, [.ref ab, .ref ap, .ref an, .ref as, .int (nI (ln + 60)), .int d1, .int d2, .int d3, .int d4])), (ab, .inl (cI, 460, .inl (ftFill (ftBase ln kf pf lf att n (sf 0)) fb (ln + 60)))), (ap, .inl (cI, 460, .inl (ftPks PG HG w d (ln + 60) (ftPks PP HH w d (ln + 60) (ftFill (fun _ => 0) fp (ln + 60)) r) g))), (an, .inl (cI, 460, .inl fn)), (as, .inl (cI, 460, .inl g54_as)), (b0, .inr (4, [.int (nI ln), .int att, .int en, .int (nI n), .ref bk, .ref bp, .ref bl, .ref br])), (bk, .inl (cI, 10, .inl kf)), (bp, .inl (cI, 10, .inl pf)), (bl, .inl (cI, 10, .inl lf)), (c0, .inr (1, [.ref ep, .ref eh, .int (nI r), .ref ef, .ref es, .ref eg, .int (nI g)])), (ep, .inl (cI, 11, .inl pe)), (eh, .inl (cI, 11, .inl he)), (ef, .inl (cI, 55, .inl f1)), (es, .inl (cI, 55, .inl f2)), (eg, .inl (cI, 55, .inl f3)), (s0, .inl (cI, 11, .inl sf)), (n0, .inr (6, [.int z, .int a]))] → va_S A s.heap H locs → ∀ ls : Array Slot, lv_has ls 6 [(0, .ref a0), (1, .ref b0), (2, .ref s0), (3, .ref c0), (4, .ref n0), (5, .int x54_5)] → W p l e (headSpec wsX9_make { frames := 3, cells := 0, slots := 0, locals := 80 }).room s m ([.ref a0, .ref b0, .ref s0, .ref c0, .ref n0] : List Value).toArray below meth c H locs 0 0 (MQ below (ftQv D [(a0, .inr (9, [.ref ab, .ref ap, .ref an, .ref as, .int (nI N), .int d1, .int d2, .int d3, .int d4])), (ab, .inl (cI, 460, .inl fb)), (ap, .inl (cI, 460, .inl fp)), (an, .inl (cI, 460, .inl fn)), (as, .inl (cI, 460, .inl fs)), (b0, .inr (4, [.int (nI ln), .int att, .int en, .int (nI n), .ref bk, .ref bp, .ref bl, .ref br])), (bk, .inl (cI, 10, .inl kf)), (bp, .inl (cI, 10, .inl pf)), (bl, .inl (cI, 10, .inl lf)), (c0, .inr (1, [.ref ep, .ref eh, .int (nI r), .ref ef, .ref es, .ref eg, .int (nI g)])), (ep, .inl (cI, 11, .inl pe)), (eh, .inl (cI, 11, .inl he)), (ef, .inl (cI, 55, .inl f1)), (es, .inl (cI, 55, .inl f2)), (eg, .inl (cI, 55, .inl f3)), (s0, .inl (cI, 11, .inl sf)), (n0, .inr (6, [.int z, .int a]))] [(a0, .inr (9, [.ref ab, .ref ap, .ref an, .ref as, .int (nI (ln + 60)), .int (nI (ln + 60)), .int (sf 3), .int (sf 4), .int (sf 5)])), (ab, .inl (cI, 460, .inl (ftFill (ftBase ln kf pf lf att n (sf 0)) fb (ln + 60)))), (ap, .inl (cI, 460, .inl (ftPeaks PP HH PG HG r g w d (ln + 60) fp))), (an, .inl (cI, 460, .inl (ftFill (ftNoise (sf 3) (sf 5) pu) fn (ln + 60)))), (as, .inl (cI, 460, .inl (ftFill (ftSamp ln kf pf lf att n sf (ftPeaks PP HH PG HG r g w d (ln + 60) fp) pu) fs (ln + 60)))), (b0, .inr (4, [.int (nI ln), .int att, .int en, .int (nI n), .ref bk, .ref bp, .ref bl, .ref br])), (bk, .inl (cI, 10, .inl kf)), (bp, .inl (cI, 10, .inl pf)), (bl, .inl (cI, 10, .inl lf)), (c0, .inr (1, [.ref ep, .ref eh, .int (nI r), .ref ef, .ref es, .ref eg, .int (nI g)])), (ep, .inl (cI, 11, .inl pe)), (eh, .inl (cI, 11, .inl he)), (ef, .inl (cI, 55, .inl f1)), (es, .inl (cI, 55, .inl f2)), (eg, .inl (cI, 55, .inl f3)), (s0, .inl (cI, 11, .inl sf)), (n0, .inr (6, [.int (ftIte (d1 = nI (ln + 60) ∧ d2 = sf 3 ∧ d3 = sf 4 ∧ d4 = sf 5) z (ftNzs (sf 3) (sf 5) pu (ln + 60))), .int (ftIte (d1 = nI (ln + 60) ∧ d2 = sf 3 ∧ d3 = sf 4 ∧ d4 = sf 5) a (sf 3))]))] s.heap.size) ([.ref a0, .ref b0, .ref s0, .ref c0, .ref n0] : List Value).toArray s 0 0 A) (F0 m 54 ls []) := by
      intro n54
      induction n54 with
      | zero =>
        intro x x54_5 g54_as hm54
        exact absurd hm54 (Nat.not_lt_zero _)
      | succ n54 ih54 =>
        intro x x54_5 g54_as hm54 hx0 ex54_5 eg54_as H locs hP hD hS ls hl
        subst ex54_5
        refine lv_iload hx hb dX9_make_54 (lv_at hl 5 rfl) ?_
        refine lv_aload_n hx hb dX9_make_56 rfl (lv_at hl 0 rfl) ?_
        refine va_get (D := D) (ci := 9) (v := .int (nI (ln + 60))) (C := RX9) (T := TX9) (N := 9) hx hb hts (by decide +kernel) hown hK hP 0 rfl rfl 4 (by decide) (hts (.fieldLink RX9 30 "FiberTrace$Trace" "size" "I") (by decide +kernel)) (fun _ h9 => h9) rfl dX9_make_57 ?_
        refine lv_icmp_ge (tgt := 107) hx hb dX9_make_60 (by decide) (fun c60 => ?_) (fun c60 => ?_)
        · have c60n : (ln + 60) ≤ x := ft_leN (by omega) (by omega) c60
          have hw9 : ([(a0, .inr (9, [.ref ab, .ref ap, .ref an, .ref as, .int (nI (ln + 60)), .int d1, .int d2, .int d3, .int d4])), (ab, .inl (cI, 460, .inl (ftFill (ftBase ln kf pf lf att n (sf 0)) fb (ln + 60)))), (ap, .inl (cI, 460, .inl (ftPks PG HG w d (ln + 60) (ftPks PP HH w d (ln + 60) (ftFill (fun _ => 0) fp (ln + 60)) r) g))), (an, .inl (cI, 460, .inl fn)), (as, .inl (cI, 460, .inl g54_as)), (b0, .inr (4, [.int (nI ln), .int att, .int en, .int (nI n), .ref bk, .ref bp, .ref bl, .ref br])), (bk, .inl (cI, 10, .inl kf)), (bp, .inl (cI, 10, .inl pf)), (bl, .inl (cI, 10, .inl lf)), (c0, .inr (1, [.ref ep, .ref eh, .int (nI r), .ref ef, .ref es, .ref eg, .int (nI g)])), (ep, .inl (cI, 11, .inl pe)), (eh, .inl (cI, 11, .inl he)), (ef, .inl (cI, 55, .inl f1)), (es, .inl (cI, 55, .inl f2)), (eg, .inl (cI, 55, .inl f3)), (s0, .inl (cI, 11, .inl sf)), (n0, .inr (6, [.int z, .int a]))] : va_W) = [(a0, .inr (9, [.ref ab, .ref ap, .ref an, .ref as, .int (nI (ln + 60)), .int (nI (ln + 60)), .int (sf 3), .int (sf 4), .int (sf 5)])), (ab, .inl (cI, 460, .inl (ftFill (ftBase ln kf pf lf att n (sf 0)) fb (ln + 60)))), (ap, .inl (cI, 460, .inl (ftPeaks PP HH PG HG r g w d (ln + 60) fp))), (an, .inl (cI, 460, .inl (ftFill (ftNoise (sf 3) (sf 5) pu) fn (ln + 60)))), (as, .inl (cI, 460, .inl (ftFill (ftSamp ln kf pf lf att n sf (ftPeaks PP HH PG HG r g w d (ln + 60) fp) pu) fs (ln + 60)))), (b0, .inr (4, [.int (nI ln), .int att, .int en, .int (nI n), .ref bk, .ref bp, .ref bl, .ref br])), (bk, .inl (cI, 10, .inl kf)), (bp, .inl (cI, 10, .inl pf)), (bl, .inl (cI, 10, .inl lf)), (c0, .inr (1, [.ref ep, .ref eh, .int (nI r), .ref ef, .ref es, .ref eg, .int (nI g)])), (ep, .inl (cI, 11, .inl pe)), (eh, .inl (cI, 11, .inl he)), (ef, .inl (cI, 55, .inl f1)), (es, .inl (cI, 55, .inl f2)), (eg, .inl (cI, 55, .inl f3)), (s0, .inl (cI, 11, .inl sf)), (n0, .inr (6, [.int (ftIte (d1 = nI (ln + 60) ∧ d2 = sf 3 ∧ d3 = sf 4 ∧ d4 = sf 5) z (ftNzs (sf 3) (sf 5) pu (ln + 60))), .int (ftIte (d1 = nI (ln + 60) ∧ d2 = sf 3 ∧ d3 = sf 4 ∧ d4 = sf 5) a (sf 3))]))] := by (have hx9 : x = ln + 60 := by omega); first | (rw [eg54_as, hx9, ftIte_f c41, ftIte_f c41]; rfl) | (rw [eg54_as, hx9, ftIte_t c41, ftIte_t c41, ← ftFill_self (hca c41), ← c41.2.1, ← c41.2.2.1, ← c41.2.2.2, ← c41.1]; rfl)
          rw [hw9] at hP hD
          exact W.vret hx hb hr (fun t ht hW => ⟨⟨(), rfl, trivial, by rw [ht]; exact hP, by rw [hAe]; exact hD⟩, by rw [hAe]; exact hS.F ht⟩) hS.2.2 dX9_make_107
        · have c60n : x < (ln + 60) := ft_nleN (by omega) (by omega) c60
          refine lv_aload_n hx hb dX9_make_63 rfl (lv_at hl 0 rfl) ?_
          refine va_get (D := D) (ci := 9) (v := .ref as) (C := RX9) (T := TX9) (N := 9) hx hb hts (by decide +kernel) hown hK hP 0 rfl rfl 3 (by decide) (hts (.fieldLink RX9 21 "FiberTrace$Trace" "samples" "[I") (by decide +kernel)) (fun _ h9 => h9) rfl dX9_make_64 ?_
          refine lv_iload hx hb dX9_make_67 (lv_at hl 5 rfl) ?_
          refine lv_aload_n hx hb dX9_make_69 rfl (lv_at hl 0 rfl) ?_
          refine va_get (D := D) (ci := 9) (v := .ref ab) (C := RX9) (T := TX9) (N := 9) hx hb hts (by decide +kernel) hown hK hP 0 rfl rfl 0 (by decide) (hts (.fieldLink RX9 9 "FiberTrace$Trace" "base" "[I") (by decide +kernel)) (fun _ h9 => h9) rfl dX9_make_70 ?_
          refine lv_iload hx hb dX9_make_73 (lv_at hl 5 rfl) ?_
          refine ft_csi (r := ftAt 460 (ftFill (ftBase ln kf pf lf att n (sf 0)) fb (ln + 60)) (nI x)) (va_runSN (As := [.ref ab, .int (nI x)]) (rest := [.int (nI x), .ref as]) ⟨hx, hb, hml, hown, hts⟩ (c_X10_at l D cI cS ab 460 (ftFill (ftBase ln kf pf lf att n (sf 0)) fb (ln + 60)) (nI x) (by first | assumption | omega)) ⟨va_cnB 2 hts gX9_make_X10_at_n33 rfl rfl rfl (hKK.2 _ (List.mem_of_getElem? (i := 17) rfl)) (hts (.initialized RX10) (by decide +kernel)) (by decide +kernel) ⟨Nat.le_of_ble_eq_true rfl, Nat.le_of_ble_eq_true rfl⟩, hts (.static yX10_at) (by decide +kernel), trivial⟩ (ft_preRO hP hKK [1] rfl) rfl rfl hl.1 rfl (lv_room (Nat.le_of_ble_eq_true rfl)) dX9_make_75 ⟨Nat.le_of_ble_eq_true rfl, Nat.le_of_ble_eq_true rfl⟩) ?_
          refine ft_top (y := (ftFill (ftBase ln kf pf lf att n (sf 0)) fb (ln + 60)) x) (ftAt_N (by omega) (by omega)) ?_
          refine lv_aload_n hx hb dX9_make_78 rfl (lv_at hl 0 rfl) ?_
          refine va_get (D := D) (ci := 9) (v := .ref ap) (C := RX9) (T := TX9) (N := 9) hx hb hts (by decide +kernel) hown hK hP 0 rfl rfl 1 (by decide) (hts (.fieldLink RX9 15 "FiberTrace$Trace" "peaks" "[I") (by decide +kernel)) (fun _ h9 => h9) rfl dX9_make_79 ?_
          refine lv_iload hx hb dX9_make_82 (lv_at hl 5 rfl) ?_
          refine ft_csi (r := ftAt 460 (ftPks PG HG w d (ln + 60) (ftPks PP HH w d (ln + 60) (ftFill (fun _ => 0) fp (ln + 60)) r) g) (nI x)) (va_runSN (As := [.ref ap, .int (nI x)]) (rest := [.int ((ftFill (ftBase ln kf pf lf att n (sf 0)) fb (ln + 60)) x), .int (nI x), .ref as]) ⟨hx, hb, hml, hown, hts⟩ (c_X10_at l D cI cS ap 460 (ftPks PG HG w d (ln + 60) (ftPks PP HH w d (ln + 60) (ftFill (fun _ => 0) fp (ln + 60)) r) g) (nI x) (by first | assumption | omega)) ⟨va_cnB 2 hts gX9_make_X10_at_n33 rfl rfl rfl (hKK.2 _ (List.mem_of_getElem? (i := 17) rfl)) (hts (.initialized RX10) (by decide +kernel)) (by decide +kernel) ⟨Nat.le_of_ble_eq_true rfl, Nat.le_of_ble_eq_true rfl⟩, hts (.static yX10_at) (by decide +kernel), trivial⟩ (ft_preRO hP hKK [2] rfl) rfl rfl hl.1 rfl (lv_room (Nat.le_of_ble_eq_true rfl)) dX9_make_84 ⟨Nat.le_of_ble_eq_true rfl, Nat.le_of_ble_eq_true rfl⟩) ?_
          refine ft_top (y := (ftPks PG HG w d (ln + 60) (ftPks PP HH w d (ln + 60) (ftFill (fun _ => 0) fp (ln + 60)) r) g) x) (ftAt_N (by omega) (by omega)) ?_
          refine lv_iadd hx hb dX9_make_87 ?_
          refine lv_aload_n hx hb dX9_make_88 rfl (lv_at hl 0 rfl) ?_
          refine va_get (D := D) (ci := 9) (v := .ref an) (C := RX9) (T := TX9) (N := 9) hx hb hts (by decide +kernel) hown hK hP 0 rfl rfl 2 (by decide) (hts (.fieldLink RX9 18 "FiberTrace$Trace" "noise" "[I") (by decide +kernel)) (fun _ h9 => h9) rfl dX9_make_89 ?_
          refine lv_iload hx hb dX9_make_92 (lv_at hl 5 rfl) ?_
          refine ft_csi (r := ftAt 460 fn (nI x)) (va_runSN (As := [.ref an, .int (nI x)]) (rest := [.int (((ftFill (ftBase ln kf pf lf att n (sf 0)) fb (ln + 60)) x) + ((ftPks PG HG w d (ln + 60) (ftPks PP HH w d (ln + 60) (ftFill (fun _ => 0) fp (ln + 60)) r) g) x)), .int (nI x), .ref as]) ⟨hx, hb, hml, hown, hts⟩ (c_X10_at l D cI cS an 460 fn (nI x) (by first | assumption | omega)) ⟨va_cnB 2 hts gX9_make_X10_at_n33 rfl rfl rfl (hKK.2 _ (List.mem_of_getElem? (i := 17) rfl)) (hts (.initialized RX10) (by decide +kernel)) (by decide +kernel) ⟨Nat.le_of_ble_eq_true rfl, Nat.le_of_ble_eq_true rfl⟩, hts (.static yX10_at) (by decide +kernel), trivial⟩ (ft_preRO hP hKK [3] rfl) rfl rfl hl.1 rfl (lv_room (Nat.le_of_ble_eq_true rfl)) dX9_make_94 ⟨Nat.le_of_ble_eq_true rfl, Nat.le_of_ble_eq_true rfl⟩) ?_
          refine ft_top (y := fn x) (ftAt_N (by omega) (by omega)) ?_
          refine lv_iadd hx hb dX9_make_97 ?_
          refine ft_cv (wc := [(as, .inl (cI, 460, .inl g54_as))]) (wr := [(a0, .inr (9, [.ref ab, .ref ap, .ref an, .ref as, .int (nI (ln + 60)), .int d1, .int d2, .int d3, .int d4])), (ab, .inl (cI, 460, .inl (ftFill (ftBase ln kf pf lf att n (sf 0)) fb (ln + 60)))), (ap, .inl (cI, 460, .inl (ftPks PG HG w d (ln + 60) (ftPks PP HH w d (ln + 60) (ftFill (fun _ => 0) fp (ln + 60)) r) g))), (an, .inl (cI, 460, .inl fn)), (b0, .inr (4, [.int (nI ln), .int att, .int en, .int (nI n), .ref bk, .ref bp, .ref bl, .ref br])), (bk, .inl (cI, 10, .inl kf)), (bp, .inl (cI, 10, .inl pf)), (bl, .inl (cI, 10, .inl lf)), (c0, .inr (1, [.ref ep, .ref eh, .int (nI r), .ref ef, .ref es, .ref eg, .int (nI g)])), (ep, .inl (cI, 11, .inl pe)), (eh, .inl (cI, 11, .inl he)), (ef, .inl (cI, 55, .inl f1)), (es, .inl (cI, 55, .inl f2)), (eg, .inl (cI, 55, .inl f3)), (s0, .inl (cI, 11, .inl sf)), (n0, .inr (6, [.int z, .int a]))]) (w1 := [(as, .inl (cI, 460, .inl (ftPut 460 g54_as (nI x) ((((ftFill (ftBase ln kf pf lf att n (sf 0)) fb (ln + 60)) x) + ((ftPks PG HG w d (ln + 60) (ftPks PP HH w d (ln + 60) (ftFill (fun _ => 0) fp (ln + 60)) r) g) x)) + (fn x)))))]) (ws1 := [(a0, .inr (9, [.ref ab, .ref ap, .ref an, .ref as, .int (nI (ln + 60)), .int d1, .int d2, .int d3, .int d4])), (ab, .inl (cI, 460, .inl (ftFill (ftBase ln kf pf lf att n (sf 0)) fb (ln + 60)))), (ap, .inl (cI, 460, .inl (ftPks PG HG w d (ln + 60) (ftPks PP HH w d (ln + 60) (ftFill (fun _ => 0) fp (ln + 60)) r) g))), (an, .inl (cI, 460, .inl fn)), (as, .inl (cI, 460, .inl (ftPut 460 g54_as (nI x) ((((ftFill (ftBase ln kf pf lf att n (sf 0)) fb (ln + 60)) x) + ((ftPks PG HG w d (ln + 60) (ftPks PP HH w d (ln + 60) (ftFill (fun _ => 0) fp (ln + 60)) r) g) x)) + (fn x))))), (b0, .inr (4, [.int (nI ln), .int att, .int en, .int (nI n), .ref bk, .ref bp, .ref bl, .ref br])), (bk, .inl (cI, 10, .inl kf)), (bp, .inl (cI, 10, .inl pf)), (bl, .inl (cI, 10, .inl lf)), (c0, .inr (1, [.ref ep, .ref eh, .int (nI r), .ref ef, .ref es, .ref eg, .int (nI g)])), (ep, .inl (cI, 11, .inl pe)), (eh, .inl (cI, 11, .inl he)), (ef, .inl (cI, 55, .inl f1)), (es, .inl (cI, 55, .inl f2)), (eg, .inl (cI, 55, .inl f3)), (s0, .inl (cI, 11, .inl sf)), (n0, .inr (6, [.int z, .int a]))]) (va_runSN (As := [.ref as, .int (nI x), .int ((((ftFill (ftBase ln kf pf lf att n (sf 0)) fb (ln + 60)) x) + ((ftPks PG HG w d (ln + 60) (ftPks PP HH w d (ln + 60) (ftFill (fun _ => 0) fp (ln + 60)) r) g) x)) + (fn x))]) (rest := []) ⟨hx, hb, hml, hown, hts⟩ (c_X10_put l D cI cS H.size as 460 g54_as (nI x) ((((ftFill (ftBase ln kf pf lf att n (sf 0)) fb (ln + 60)) x) + ((ftPks PG HG w d (ln + 60) (ftPks PP HH w d (ln + 60) (ftFill (fun _ => 0) fp (ln + 60)) r) g) x)) + (fn x)) (by first | assumption | omega)) ⟨va_cnB 3 hts gX9_make_X10_put_n53 rfl rfl rfl (hKK.2 _ (List.mem_of_getElem? (i := 19) rfl)) (hts (.initialized RX10) (by decide +kernel)) (by decide +kernel) ⟨Nat.le_of_ble_eq_true rfl, Nat.le_of_ble_eq_true rfl⟩, hts (.static yX10_put) (by decide +kernel), trivial⟩ (ft_preRW hP hD hKK [4] rfl rfl rfl) rfl rfl hl.1 rfl (lv_room (Nat.le_of_ble_eq_true rfl)) dX9_make_98 ⟨Nat.le_of_ble_eq_true rfl, Nat.le_of_ble_eq_true rfl⟩) hP hD hS hA [4] [0, 1, 2, 3, 5, 6, 7, 8, 9, 10, 11, 12, 13, 14, 15, 16] [0, 1, 2, 3, 16, 4, 5, 6, 7, 8, 9, 10, 11, 12, 13, 14, 15] rfl rfl (by decide) (by decide) (by decide) rfl rfl (fun H locs hP hD hS => ?_)
          rw [ftPut_N (k := x) (by omega) (by omega)] at hP hD
          have hP : va_P D vwCl [(a0, .inr (9, [.ref ab, .ref ap, .ref an, .ref as, .int (nI (ln + 60)), .int d1, .int d2, .int d3, .int d4])), (ab, .inl (cI, 460, .inl (ftFill (ftBase ln kf pf lf att n (sf 0)) fb (ln + 60)))), (ap, .inl (cI, 460, .inl (ftPks PG HG w d (ln + 60) (ftPks PP HH w d (ln + 60) (ftFill (fun _ => 0) fp (ln + 60)) r) g))), (an, .inl (cI, 460, .inl fn)), (as, .inl (cI, 460, .inl (upd g54_as x ((((ftFill (ftBase ln kf pf lf att n (sf 0)) fb (ln + 60)) x) + ((ftPks PG HG w d (ln + 60) (ftPks PP HH w d (ln + 60) (ftFill (fun _ => 0) fp (ln + 60)) r) g) x)) + (fn x))))), (b0, .inr (4, [.int (nI ln), .int att, .int en, .int (nI n), .ref bk, .ref bp, .ref bl, .ref br])), (bk, .inl (cI, 10, .inl kf)), (bp, .inl (cI, 10, .inl pf)), (bl, .inl (cI, 10, .inl lf)), (c0, .inr (1, [.ref ep, .ref eh, .int (nI r), .ref ef, .ref es, .ref eg, .int (nI g)])), (ep, .inl (cI, 11, .inl pe)), (eh, .inl (cI, 11, .inl he)), (ef, .inl (cI, 55, .inl f1)), (es, .inl (cI, 55, .inl f2)), (eg, .inl (cI, 55, .inl f3)), (s0, .inl (cI, 11, .inl sf)), (n0, .inr (6, [.int z, .int a]))] H := hP
          have hD : va_D A [(a0, .inr (9, [.ref ab, .ref ap, .ref an, .ref as, .int (nI (ln + 60)), .int d1, .int d2, .int d3, .int d4])), (ab, .inl (cI, 460, .inl (ftFill (ftBase ln kf pf lf att n (sf 0)) fb (ln + 60)))), (ap, .inl (cI, 460, .inl (ftPks PG HG w d (ln + 60) (ftPks PP HH w d (ln + 60) (ftFill (fun _ => 0) fp (ln + 60)) r) g))), (an, .inl (cI, 460, .inl fn)), (as, .inl (cI, 460, .inl (upd g54_as x ((((ftFill (ftBase ln kf pf lf att n (sf 0)) fb (ln + 60)) x) + ((ftPks PG HG w d (ln + 60) (ftPks PP HH w d (ln + 60) (ftFill (fun _ => 0) fp (ln + 60)) r) g) x)) + (fn x))))), (b0, .inr (4, [.int (nI ln), .int att, .int en, .int (nI n), .ref bk, .ref bp, .ref bl, .ref br])), (bk, .inl (cI, 10, .inl kf)), (bp, .inl (cI, 10, .inl pf)), (bl, .inl (cI, 10, .inl lf)), (c0, .inr (1, [.ref ep, .ref eh, .int (nI r), .ref ef, .ref es, .ref eg, .int (nI g)])), (ep, .inl (cI, 11, .inl pe)), (eh, .inl (cI, 11, .inl he)), (ef, .inl (cI, 55, .inl f1)), (es, .inl (cI, 55, .inl f2)), (eg, .inl (cI, 55, .inl f3)), (s0, .inl (cI, 11, .inl sf)), (n0, .inr (6, [.int z, .int a]))] := hD
          refine lv_iinc (v := nI (x + 1)) (lv' := [(5, .int (nI (x + 1))), (0, .ref a0), (1, .ref b0), (2, .ref s0), (3, .ref c0), (4, .ref n0)]) hx hb dX9_make_101 hl (k := 5) rfl (ft_inc x) (by decide) rfl (fun ls hl => ?_)
          refine lv_goto (tgt := 54) hx hb dX9_make_104 (by decide) ?_
          exact ih54 (x + 1) (nI (x + 1)) (upd g54_as x ((((ftFill (ftBase ln kf pf lf att n (sf 0)) fb (ln + 60)) x) + ((ftPks PG HG w d (ln + 60) (ftPks PP HH w d (ln + 60) (ftFill (fun _ => 0) fp (ln + 60)) r) g) x)) + (fn x))) (by omega) (by omega) (by first | rfl | assumption) (by rw [eg54_as]; refine ftFill_s ?_; rw [ftFill_at c60n, ftSamp]; first | (rw [ftFill_at c60n]; rfl) | (rw [hca c41 x c60n]; rfl)) _ _ hP hD hS ls (lv_sub hl [1, 2, 3, 4, 5, 0] rfl)
    exact lp54 _ 0 0 fs (Nat.lt_succ_self _) (by omega) (by rfl) (by exact ftFill_0 _ fs) _ _ hP hD hS ls (lv_sub hl [1, 2, 3, 4, 5, 0] rfl)
  · replace c41 := ftB_eq c41
    refine lv_aload_n hx hb dX9_make_44 rfl (lv_at hl 0 rfl) ?_
    refine lv_aload_n hx hb dX9_make_45 rfl (lv_at hl 2 rfl) ?_
    refine lv_aload hx hb dX9_make_46 (lv_at hl 4 rfl) ?_
    refine ft_cv (wc := [(a0, .inr (9, [.ref ab, .ref ap, .ref an, .ref as, .int (nI (ln + 60)), .int d1, .int d2, .int d3, .int d4])), (an, .inl (cI, 460, .inl fn)), (s0, .inl (cI, 11, .inl sf)), (n0, .inr (6, [.int z, .int a]))]) (wr := [(ab, .inl (cI, 460, .inl (ftFill (ftBase ln kf pf lf att n (sf 0)) fb (ln + 60)))), (ap, .inl (cI, 460, .inl (ftPks PG HG w d (ln + 60) (ftPks PP HH w d (ln + 60) (ftFill (fun _ => 0) fp (ln + 60)) r) g))), (as, .inl (cI, 460, .inl fs)), (b0, .inr (4, [.int (nI ln), .int att, .int en, .int (nI n), .ref bk, .ref bp, .ref bl, .ref br])), (bk, .inl (cI, 10, .inl kf)), (bp, .inl (cI, 10, .inl pf)), (bl, .inl (cI, 10, .inl lf)), (c0, .inr (1, [.ref ep, .ref eh, .int (nI r), .ref ef, .ref es, .ref eg, .int (nI g)])), (ep, .inl (cI, 11, .inl pe)), (eh, .inl (cI, 11, .inl he)), (ef, .inl (cI, 55, .inl f1)), (es, .inl (cI, 55, .inl f2)), (eg, .inl (cI, 55, .inl f3))]) (w1 := [(a0, .inr (9, [.ref ab, .ref ap, .ref an, .ref as, .int (nI (ln + 60)), .int (nI (ln + 60)), .int (sf 3), .int (sf 4), .int (sf 5)])), (an, .inl (cI, 460, .inl (ftFill (ftNoise (sf 3) (sf 5) pu) fn (ln + 60)))), (s0, .inl (cI, 11, .inl sf)), (n0, .inr (6, [.int (ftNzs (sf 3) (sf 5) pu (ln + 60)), .int (sf 3)]))]) (ws1 := [(a0, .inr (9, [.ref ab, .ref ap, .ref an, .ref as, .int (nI (ln + 60)), .int (nI (ln + 60)), .int (sf 3), .int (sf 4), .int (sf 5)])), (ab, .inl (cI, 460, .inl (ftFill (ftBase ln kf pf lf att n (sf 0)) fb (ln + 60)))), (ap, .inl (cI, 460, .inl (ftPks PG HG w d (ln + 60) (ftPks PP HH w d (ln + 60) (ftFill (fun _ => 0) fp (ln + 60)) r) g))), (an, .inl (cI, 460, .inl (ftFill (ftNoise (sf 3) (sf 5) pu) fn (ln + 60)))), (as, .inl (cI, 460, .inl fs)), (b0, .inr (4, [.int (nI ln), .int att, .int en, .int (nI n), .ref bk, .ref bp, .ref bl, .ref br])), (bk, .inl (cI, 10, .inl kf)), (bp, .inl (cI, 10, .inl pf)), (bl, .inl (cI, 10, .inl lf)), (c0, .inr (1, [.ref ep, .ref eh, .int (nI r), .ref ef, .ref es, .ref eg, .int (nI g)])), (ep, .inl (cI, 11, .inl pe)), (eh, .inl (cI, 11, .inl he)), (ef, .inl (cI, 55, .inl f1)), (es, .inl (cI, 55, .inl f2)), (eg, .inl (cI, 55, .inl f3)), (s0, .inl (cI, 11, .inl sf)), (n0, .inr (6, [.int (ftNzs (sf 3) (sf 5) pu (ln + 60)), .int (sf 3)]))]) (va_runV (C := RX9) (As := [.ref s0, .ref n0]) (rest := []) ⟨hx, hb, hml, hown, hts⟩ (c_X9_draw l D cI cS H.size a0 ab ap an as (ln + 60) d1 d2 d3 d4 fn s0 sf n0 z a pu (by omega) hpu hpu2) (cwV 2 hts gX9_make_X9_draw rfl rfl rfl (by decide +kernel) ⟨Nat.le_of_ble_eq_true rfl, Nat.le_of_ble_eq_true rfl⟩) (ft_preRWV (ci := 9) (q0 := 0) hP hD hKK [0, 3, 15, 16] rfl rfl rfl rfl rfl) rfl rfl hl.1 rfl (lv_room (Nat.le_of_ble_eq_true rfl)) dX9_make_48 ⟨Nat.le_of_ble_eq_true rfl, Nat.le_of_ble_eq_true rfl⟩) hP hD hS hA [0, 3, 15, 16] [1, 2, 4, 5, 6, 7, 8, 9, 10, 11, 12, 13, 14] [13, 0, 1, 14, 2, 3, 4, 5, 6, 7, 8, 9, 10, 11, 12, 15, 16] rfl rfl (by decide) (by decide) (by decide) rfl rfl (fun H locs hP hD hS => ?_)
    have hP : va_P D vwCl [(a0, .inr (9, [.ref ab, .ref ap, .ref an, .ref as, .int (nI (ln + 60)), .int (nI (ln + 60)), .int (sf 3), .int (sf 4), .int (sf 5)])), (ab, .inl (cI, 460, .inl (ftFill (ftBase ln kf pf lf att n (sf 0)) fb (ln + 60)))), (ap, .inl (cI, 460, .inl (ftPks PG HG w d (ln + 60) (ftPks PP HH w d (ln + 60) (ftFill (fun _ => 0) fp (ln + 60)) r) g))), (an, .inl (cI, 460, .inl (ftFill (ftNoise (sf 3) (sf 5) pu) fn (ln + 60)))), (as, .inl (cI, 460, .inl fs)), (b0, .inr (4, [.int (nI ln), .int att, .int en, .int (nI n), .ref bk, .ref bp, .ref bl, .ref br])), (bk, .inl (cI, 10, .inl kf)), (bp, .inl (cI, 10, .inl pf)), (bl, .inl (cI, 10, .inl lf)), (c0, .inr (1, [.ref ep, .ref eh, .int (nI r), .ref ef, .ref es, .ref eg, .int (nI g)])), (ep, .inl (cI, 11, .inl pe)), (eh, .inl (cI, 11, .inl he)), (ef, .inl (cI, 55, .inl f1)), (es, .inl (cI, 55, .inl f2)), (eg, .inl (cI, 55, .inl f3)), (s0, .inl (cI, 11, .inl sf)), (n0, .inr (6, [.int (ftNzs (sf 3) (sf 5) pu (ln + 60)), .int (sf 3)]))] H := hP
    have hD : va_D A [(a0, .inr (9, [.ref ab, .ref ap, .ref an, .ref as, .int (nI (ln + 60)), .int (nI (ln + 60)), .int (sf 3), .int (sf 4), .int (sf 5)])), (ab, .inl (cI, 460, .inl (ftFill (ftBase ln kf pf lf att n (sf 0)) fb (ln + 60)))), (ap, .inl (cI, 460, .inl (ftPks PG HG w d (ln + 60) (ftPks PP HH w d (ln + 60) (ftFill (fun _ => 0) fp (ln + 60)) r) g))), (an, .inl (cI, 460, .inl (ftFill (ftNoise (sf 3) (sf 5) pu) fn (ln + 60)))), (as, .inl (cI, 460, .inl fs)), (b0, .inr (4, [.int (nI ln), .int att, .int en, .int (nI n), .ref bk, .ref bp, .ref bl, .ref br])), (bk, .inl (cI, 10, .inl kf)), (bp, .inl (cI, 10, .inl pf)), (bl, .inl (cI, 10, .inl lf)), (c0, .inr (1, [.ref ep, .ref eh, .int (nI r), .ref ef, .ref es, .ref eg, .int (nI g)])), (ep, .inl (cI, 11, .inl pe)), (eh, .inl (cI, 11, .inl he)), (ef, .inl (cI, 55, .inl f1)), (es, .inl (cI, 55, .inl f2)), (eg, .inl (cI, 55, .inl f3)), (s0, .inl (cI, 11, .inl sf)), (n0, .inr (6, [.int (ftNzs (sf 3) (sf 5) pu (ln + 60)), .int (sf 3)]))] := hD
    refine lv_iconst (v := 0) hx hb dX9_make_51 (by decide) ?_
    refine lv_istore (lv' := [(5, .int 0), (0, .ref a0), (1, .ref b0), (2, .ref s0), (3, .ref c0), (4, .ref n0)]) hx hb dX9_make_52 hl (by decide) rfl (fun ls hl => ?_)
    have lp54 : ∀ (n54 : Nat) (x : Nat) (x54_5 : Int32) (g54_as : Nat → Int32), ln + 60 - x < n54 → (x ≤ ln + 60) → x54_5 = nI x → g54_as = ftFill (ftSamp ln kf pf lf att n sf (ftPeaks PP HH PG HG r g w d (ln + 60) fp) pu) fs x → ∀ (H : Heap) (locs : List Loc), va_P D vwCl [(a0, .inr (9, [.ref ab, .ref ap, .ref an, .ref as, .int (nI (ln + 60)), .int (nI (ln + 60)), .int (sf 3), .int (sf 4), .int (sf 5)])), (ab, .inl (cI, 460, .inl (ftFill (ftBase ln kf pf lf att n (sf 0)) fb (ln + 60)))), (ap, .inl (cI, 460, .inl (ftPks PG HG w d (ln + 60) (ftPks PP HH w d (ln + 60) (ftFill (fun _ => 0) fp (ln + 60)) r) g))), (an, .inl (cI, 460, .inl (ftFill (ftNoise (sf 3) (sf 5) pu) fn (ln + 60)))), (as, .inl (cI, 460, .inl g54_as)), (b0, .inr (4, [.int (nI ln), .int att, .int en, .int (nI n), .ref bk, .ref bp, .ref bl, .ref br])), (bk, .inl (cI, 10, .inl kf)), (bp, .inl (cI, 10, .inl pf)), (bl, .inl (cI, 10, .inl lf)), (c0, .inr (1, [.ref ep, .ref eh, .int (nI r), .ref ef, .ref es, .ref eg, .int (nI g)])), (ep, .inl (cI, 11, .inl pe)), (eh, .inl (cI, 11, .inl he)), (ef, .inl (cI, 55, .inl f1)), (es, .inl (cI, 55, .inl f2)), (eg, .inl (cI, 55, .inl f3)), (s0, .inl (cI, 11, .inl sf)), (n0, .inr (6, [.int (ftNzs (sf 3) (sf 5) pu (ln + 60)), .int (sf 3)]))] H → va_D A [(a0, .inr (9, [.ref ab, .ref ap, .ref an, .ref as, .int (nI (ln + 60)), .int (nI (ln + 60)), .int (sf 3), .int (sf 4), .int (sf 5)])), (ab, .inl (cI, 460, .inl (ftFill (ftBase ln kf pf lf att n (sf 0)) fb (ln + 60)))), (ap, .inl (cI, 460, .inl (ftPks PG HG w d (ln + 60) (ftPks PP HH w d (ln + 60) (ftFill (fun _ => 0) fp (ln + 60)) r) g))), (an, .inl (cI, 460, .inl (ftFill (ftNoise (sf 3) (sf 5) pu) fn (ln + 60)))), (as, .inl (cI, 460, .inl g54_as)), (b0, .inr (4, [.int (nI ln), .int att, .int en, .int (nI n), .ref bk, .ref bp, .ref bl, .ref br])), (bk, .inl (cI, 10, .inl kf)), (bp, .inl (cI, 10, .inl pf)), (bl, .inl (cI, 10, .inl lf)), (c0, .inr (1, [.ref ep, .ref eh, .int (nI r), .ref ef, .ref es, .ref eg, .int (nI g)])), (ep, .inl (cI, 11, .inl pe)), (eh, .inl (cI, 11, .inl he)), (ef, .inl (cI, 55, .inl f1)), (es, .inl (cI, 55, .inl f2)), (eg, .inl (cI, 55, .inl f3)), (s0, .inl (cI, 11, .inl sf)), (n0, .inr (6, [.int (ftNzs (sf 3) (sf 5) pu (ln + 60)), .int (sf 3)]))] → va_S A s.heap H locs → ∀ ls : Array Slot, lv_has ls 6 [(0, .ref a0), (1, .ref b0), (2, .ref s0), (3, .ref c0), (4, .ref n0), (5, .int x54_5)] → W p l e (headSpec wsX9_make { frames := 3, cells := 0, slots := 0, locals := 80 }).room s m ([.ref a0, .ref b0, .ref s0, .ref c0, .ref n0] : List Value).toArray below meth c H locs 0 0 (MQ below (ftQv D [(a0, .inr (9, [.ref ab, .ref ap, .ref an, .ref as, .int (nI N), .int d1, .int d2, .int d3, .int d4])), (ab, .inl (cI, 460, .inl fb)), (ap, .inl (cI, 460, .inl fp)), (an, .inl (cI, 460, .inl fn)), (as, .inl (cI, 460, .inl fs)), (b0, .inr (4, [.int (nI ln), .int att, .int en, .int (nI n), .ref bk, .ref bp, .ref bl, .ref br])), (bk, .inl (cI, 10, .inl kf)), (bp, .inl (cI, 10, .inl pf)), (bl, .inl (cI, 10, .inl lf)), (c0, .inr (1, [.ref ep, .ref eh, .int (nI r), .ref ef, .ref es, .ref eg, .int (nI g)])), (ep, .inl (cI, 11, .inl pe)), (eh, .inl (cI, 11, .inl he)), (ef, .inl (cI, 55, .inl f1)), (es, .inl (cI, 55, .inl f2)), (eg, .inl (cI, 55, .inl f3)), (s0, .inl (cI, 11, .inl sf)), (n0, .inr (6, [.int z, .int a]))] [(a0, .inr (9, [.ref ab, .ref ap, .ref an, .ref as, .int (nI (ln + 60)), .int (nI (ln + 60)), .int (sf 3), .int (sf 4), .int (sf 5)])), (ab, .inl (cI, 460, .inl (ftFill (ftBase ln kf pf lf att n (sf 0)) fb (ln + 60)))), (ap, .inl (cI, 460, .inl (ftPeaks PP HH PG HG r g w d (ln + 60) fp))), (an, .inl (cI, 460, .inl (ftFill (ftNoise (sf 3) (sf 5) pu) fn (ln + 60)))), (as, .inl (cI, 460, .inl (ftFill (ftSamp ln kf pf lf att n sf (ftPeaks PP HH PG HG r g w d (ln + 60) fp) pu) fs (ln + 60)))), (b0, .inr (4, [.int (nI ln), .int att, .int en, .int (nI n), .ref bk, .ref bp, .ref bl, .ref br])), (bk, .inl (cI, 10, .inl kf)), (bp, .inl (cI, 10, .inl pf)), (bl, .inl (cI, 10, .inl lf)), (c0, .inr (1, [.ref ep, .ref eh, .int (nI r), .ref ef, .ref es, .ref eg, .int (nI g)])), (ep, .inl (cI, 11, .inl pe)), (eh, .inl (cI, 11, .inl he)), (ef, .inl (cI, 55, .inl f1)), (es, .inl (cI, 55, .inl f2)), (eg, .inl (cI, 55, .inl f3)), (s0, .inl (cI, 11, .inl sf)), (n0, .inr (6, [.int (ftIte (d1 = nI (ln + 60) ∧ d2 = sf 3 ∧ d3 = sf 4 ∧ d4 = sf 5) z (ftNzs (sf 3) (sf 5) pu (ln + 60))), .int (ftIte (d1 = nI (ln + 60) ∧ d2 = sf 3 ∧ d3 = sf 4 ∧ d4 = sf 5) a (sf 3))]))] s.heap.size) ([.ref a0, .ref b0, .ref s0, .ref c0, .ref n0] : List Value).toArray s 0 0 A) (F0 m 54 ls []) := by
      intro n54
      induction n54 with
      | zero =>
        intro x x54_5 g54_as hm54
        exact absurd hm54 (Nat.not_lt_zero _)
      | succ n54 ih54 =>
        intro x x54_5 g54_as hm54 hx0 ex54_5 eg54_as H locs hP hD hS ls hl
        subst ex54_5
        refine lv_iload hx hb dX9_make_54 (lv_at hl 5 rfl) ?_
        refine lv_aload_n hx hb dX9_make_56 rfl (lv_at hl 0 rfl) ?_
        refine va_get (D := D) (ci := 9) (v := .int (nI (ln + 60))) (C := RX9) (T := TX9) (N := 9) hx hb hts (by decide +kernel) hown hK hP 0 rfl rfl 4 (by decide) (hts (.fieldLink RX9 30 "FiberTrace$Trace" "size" "I") (by decide +kernel)) (fun _ h9 => h9) rfl dX9_make_57 ?_
        refine lv_icmp_ge (tgt := 107) hx hb dX9_make_60 (by decide) (fun c60 => ?_) (fun c60 => ?_)
        · have c60n : (ln + 60) ≤ x := ft_leN (by omega) (by omega) c60
          have hw9 : ([(a0, .inr (9, [.ref ab, .ref ap, .ref an, .ref as, .int (nI (ln + 60)), .int (nI (ln + 60)), .int (sf 3), .int (sf 4), .int (sf 5)])), (ab, .inl (cI, 460, .inl (ftFill (ftBase ln kf pf lf att n (sf 0)) fb (ln + 60)))), (ap, .inl (cI, 460, .inl (ftPks PG HG w d (ln + 60) (ftPks PP HH w d (ln + 60) (ftFill (fun _ => 0) fp (ln + 60)) r) g))), (an, .inl (cI, 460, .inl (ftFill (ftNoise (sf 3) (sf 5) pu) fn (ln + 60)))), (as, .inl (cI, 460, .inl g54_as)), (b0, .inr (4, [.int (nI ln), .int att, .int en, .int (nI n), .ref bk, .ref bp, .ref bl, .ref br])), (bk, .inl (cI, 10, .inl kf)), (bp, .inl (cI, 10, .inl pf)), (bl, .inl (cI, 10, .inl lf)), (c0, .inr (1, [.ref ep, .ref eh, .int (nI r), .ref ef, .ref es, .ref eg, .int (nI g)])), (ep, .inl (cI, 11, .inl pe)), (eh, .inl (cI, 11, .inl he)), (ef, .inl (cI, 55, .inl f1)), (es, .inl (cI, 55, .inl f2)), (eg, .inl (cI, 55, .inl f3)), (s0, .inl (cI, 11, .inl sf)), (n0, .inr (6, [.int (ftNzs (sf 3) (sf 5) pu (ln + 60)), .int (sf 3)]))] : va_W) = [(a0, .inr (9, [.ref ab, .ref ap, .ref an, .ref as, .int (nI (ln + 60)), .int (nI (ln + 60)), .int (sf 3), .int (sf 4), .int (sf 5)])), (ab, .inl (cI, 460, .inl (ftFill (ftBase ln kf pf lf att n (sf 0)) fb (ln + 60)))), (ap, .inl (cI, 460, .inl (ftPeaks PP HH PG HG r g w d (ln + 60) fp))), (an, .inl (cI, 460, .inl (ftFill (ftNoise (sf 3) (sf 5) pu) fn (ln + 60)))), (as, .inl (cI, 460, .inl (ftFill (ftSamp ln kf pf lf att n sf (ftPeaks PP HH PG HG r g w d (ln + 60) fp) pu) fs (ln + 60)))), (b0, .inr (4, [.int (nI ln), .int att, .int en, .int (nI n), .ref bk, .ref bp, .ref bl, .ref br])), (bk, .inl (cI, 10, .inl kf)), (bp, .inl (cI, 10, .inl pf)), (bl, .inl (cI, 10, .inl lf)), (c0, .inr (1, [.ref ep, .ref eh, .int (nI r), .ref ef, .ref es, .ref eg, .int (nI g)])), (ep, .inl (cI, 11, .inl pe)), (eh, .inl (cI, 11, .inl he)), (ef, .inl (cI, 55, .inl f1)), (es, .inl (cI, 55, .inl f2)), (eg, .inl (cI, 55, .inl f3)), (s0, .inl (cI, 11, .inl sf)), (n0, .inr (6, [.int (ftIte (d1 = nI (ln + 60) ∧ d2 = sf 3 ∧ d3 = sf 4 ∧ d4 = sf 5) z (ftNzs (sf 3) (sf 5) pu (ln + 60))), .int (ftIte (d1 = nI (ln + 60) ∧ d2 = sf 3 ∧ d3 = sf 4 ∧ d4 = sf 5) a (sf 3))]))] := by (have hx9 : x = ln + 60 := by omega); first | (rw [eg54_as, hx9, ftIte_f c41, ftIte_f c41]; rfl) | (rw [eg54_as, hx9, ftIte_t c41, ftIte_t c41, ← ftFill_self (hca c41), ← c41.2.1, ← c41.2.2.1, ← c41.2.2.2, ← c41.1]; rfl)
          rw [hw9] at hP hD
          exact W.vret hx hb hr (fun t ht hW => ⟨⟨(), rfl, trivial, by rw [ht]; exact hP, by rw [hAe]; exact hD⟩, by rw [hAe]; exact hS.F ht⟩) hS.2.2 dX9_make_107
        · have c60n : x < (ln + 60) := ft_nleN (by omega) (by omega) c60
          refine lv_aload_n hx hb dX9_make_63 rfl (lv_at hl 0 rfl) ?_
          refine va_get (D := D) (ci := 9) (v := .ref as) (C := RX9) (T := TX9) (N := 9) hx hb hts (by decide +kernel) hown hK hP 0 rfl rfl 3 (by decide) (hts (.fieldLink RX9 21 "FiberTrace$Trace" "samples" "[I") (by decide +kernel)) (fun _ h9 => h9) rfl dX9_make_64 ?_
          refine lv_iload hx hb dX9_make_67 (lv_at hl 5 rfl) ?_
          refine lv_aload_n hx hb dX9_make_69 rfl (lv_at hl 0 rfl) ?_
          refine va_get (D := D) (ci := 9) (v := .ref ab) (C := RX9) (T := TX9) (N := 9) hx hb hts (by decide +kernel) hown hK hP 0 rfl rfl 0 (by decide) (hts (.fieldLink RX9 9 "FiberTrace$Trace" "base" "[I") (by decide +kernel)) (fun _ h9 => h9) rfl dX9_make_70 ?_
          refine lv_iload hx hb dX9_make_73 (lv_at hl 5 rfl) ?_
          refine ft_csi (r := ftAt 460 (ftFill (ftBase ln kf pf lf att n (sf 0)) fb (ln + 60)) (nI x)) (va_runSN (As := [.ref ab, .int (nI x)]) (rest := [.int (nI x), .ref as]) ⟨hx, hb, hml, hown, hts⟩ (c_X10_at l D cI cS ab 460 (ftFill (ftBase ln kf pf lf att n (sf 0)) fb (ln + 60)) (nI x) (by first | assumption | omega)) ⟨va_cnB 2 hts gX9_make_X10_at_n33 rfl rfl rfl (hKK.2 _ (List.mem_of_getElem? (i := 17) rfl)) (hts (.initialized RX10) (by decide +kernel)) (by decide +kernel) ⟨Nat.le_of_ble_eq_true rfl, Nat.le_of_ble_eq_true rfl⟩, hts (.static yX10_at) (by decide +kernel), trivial⟩ (ft_preRO hP hKK [1] rfl) rfl rfl hl.1 rfl (lv_room (Nat.le_of_ble_eq_true rfl)) dX9_make_75 ⟨Nat.le_of_ble_eq_true rfl, Nat.le_of_ble_eq_true rfl⟩) ?_
          refine ft_top (y := (ftFill (ftBase ln kf pf lf att n (sf 0)) fb (ln + 60)) x) (ftAt_N (by omega) (by omega)) ?_
          refine lv_aload_n hx hb dX9_make_78 rfl (lv_at hl 0 rfl) ?_
          refine va_get (D := D) (ci := 9) (v := .ref ap) (C := RX9) (T := TX9) (N := 9) hx hb hts (by decide +kernel) hown hK hP 0 rfl rfl 1 (by decide) (hts (.fieldLink RX9 15 "FiberTrace$Trace" "peaks" "[I") (by decide +kernel)) (fun _ h9 => h9) rfl dX9_make_79 ?_
          refine lv_iload hx hb dX9_make_82 (lv_at hl 5 rfl) ?_
          refine ft_csi (r := ftAt 460 (ftPks PG HG w d (ln + 60) (ftPks PP HH w d (ln + 60) (ftFill (fun _ => 0) fp (ln + 60)) r) g) (nI x)) (va_runSN (As := [.ref ap, .int (nI x)]) (rest := [.int ((ftFill (ftBase ln kf pf lf att n (sf 0)) fb (ln + 60)) x), .int (nI x), .ref as]) ⟨hx, hb, hml, hown, hts⟩ (c_X10_at l D cI cS ap 460 (ftPks PG HG w d (ln + 60) (ftPks PP HH w d (ln + 60) (ftFill (fun _ => 0) fp (ln + 60)) r) g) (nI x) (by first | assumption | omega)) ⟨va_cnB 2 hts gX9_make_X10_at_n33 rfl rfl rfl (hKK.2 _ (List.mem_of_getElem? (i := 17) rfl)) (hts (.initialized RX10) (by decide +kernel)) (by decide +kernel) ⟨Nat.le_of_ble_eq_true rfl, Nat.le_of_ble_eq_true rfl⟩, hts (.static yX10_at) (by decide +kernel), trivial⟩ (ft_preRO hP hKK [2] rfl) rfl rfl hl.1 rfl (lv_room (Nat.le_of_ble_eq_true rfl)) dX9_make_84 ⟨Nat.le_of_ble_eq_true rfl, Nat.le_of_ble_eq_true rfl⟩) ?_
          refine ft_top (y := (ftPks PG HG w d (ln + 60) (ftPks PP HH w d (ln + 60) (ftFill (fun _ => 0) fp (ln + 60)) r) g) x) (ftAt_N (by omega) (by omega)) ?_
          refine lv_iadd hx hb dX9_make_87 ?_
          refine lv_aload_n hx hb dX9_make_88 rfl (lv_at hl 0 rfl) ?_
          refine va_get (D := D) (ci := 9) (v := .ref an) (C := RX9) (T := TX9) (N := 9) hx hb hts (by decide +kernel) hown hK hP 0 rfl rfl 2 (by decide) (hts (.fieldLink RX9 18 "FiberTrace$Trace" "noise" "[I") (by decide +kernel)) (fun _ h9 => h9) rfl dX9_make_89 ?_
          refine lv_iload hx hb dX9_make_92 (lv_at hl 5 rfl) ?_
          refine ft_csi (r := ftAt 460 (ftFill (ftNoise (sf 3) (sf 5) pu) fn (ln + 60)) (nI x)) (va_runSN (As := [.ref an, .int (nI x)]) (rest := [.int (((ftFill (ftBase ln kf pf lf att n (sf 0)) fb (ln + 60)) x) + ((ftPks PG HG w d (ln + 60) (ftPks PP HH w d (ln + 60) (ftFill (fun _ => 0) fp (ln + 60)) r) g) x)), .int (nI x), .ref as]) ⟨hx, hb, hml, hown, hts⟩ (c_X10_at l D cI cS an 460 (ftFill (ftNoise (sf 3) (sf 5) pu) fn (ln + 60)) (nI x) (by first | assumption | omega)) ⟨va_cnB 2 hts gX9_make_X10_at_n33 rfl rfl rfl (hKK.2 _ (List.mem_of_getElem? (i := 17) rfl)) (hts (.initialized RX10) (by decide +kernel)) (by decide +kernel) ⟨Nat.le_of_ble_eq_true rfl, Nat.le_of_ble_eq_true rfl⟩, hts (.static yX10_at) (by decide +kernel), trivial⟩ (ft_preRO hP hKK [3] rfl) rfl rfl hl.1 rfl (lv_room (Nat.le_of_ble_eq_true rfl)) dX9_make_94 ⟨Nat.le_of_ble_eq_true rfl, Nat.le_of_ble_eq_true rfl⟩) ?_
          refine ft_top (y := (ftFill (ftNoise (sf 3) (sf 5) pu) fn (ln + 60)) x) (ftAt_N (by omega) (by omega)) ?_
          refine lv_iadd hx hb dX9_make_97 ?_
          refine ft_cv (wc := [(as, .inl (cI, 460, .inl g54_as))]) (wr := [(a0, .inr (9, [.ref ab, .ref ap, .ref an, .ref as, .int (nI (ln + 60)), .int (nI (ln + 60)), .int (sf 3), .int (sf 4), .int (sf 5)])), (ab, .inl (cI, 460, .inl (ftFill (ftBase ln kf pf lf att n (sf 0)) fb (ln + 60)))), (ap, .inl (cI, 460, .inl (ftPks PG HG w d (ln + 60) (ftPks PP HH w d (ln + 60) (ftFill (fun _ => 0) fp (ln + 60)) r) g))), (an, .inl (cI, 460, .inl (ftFill (ftNoise (sf 3) (sf 5) pu) fn (ln + 60)))), (b0, .inr (4, [.int (nI ln), .int att, .int en, .int (nI n), .ref bk, .ref bp, .ref bl, .ref br])), (bk, .inl (cI, 10, .inl kf)), (bp, .inl (cI, 10, .inl pf)), (bl, .inl (cI, 10, .inl lf)), (c0, .inr (1, [.ref ep, .ref eh, .int (nI r), .ref ef, .ref es, .ref eg, .int (nI g)])), (ep, .inl (cI, 11, .inl pe)), (eh, .inl (cI, 11, .inl he)), (ef, .inl (cI, 55, .inl f1)), (es, .inl (cI, 55, .inl f2)), (eg, .inl (cI, 55, .inl f3)), (s0, .inl (cI, 11, .inl sf)), (n0, .inr (6, [.int (ftNzs (sf 3) (sf 5) pu (ln + 60)), .int (sf 3)]))]) (w1 := [(as, .inl (cI, 460, .inl (ftPut 460 g54_as (nI x) ((((ftFill (ftBase ln kf pf lf att n (sf 0)) fb (ln + 60)) x) + ((ftPks PG HG w d (ln + 60) (ftPks PP HH w d (ln + 60) (ftFill (fun _ => 0) fp (ln + 60)) r) g) x)) + ((ftFill (ftNoise (sf 3) (sf 5) pu) fn (ln + 60)) x)))))]) (ws1 := [(a0, .inr (9, [.ref ab, .ref ap, .ref an, .ref as, .int (nI (ln + 60)), .int (nI (ln + 60)), .int (sf 3), .int (sf 4), .int (sf 5)])), (ab, .inl (cI, 460, .inl (ftFill (ftBase ln kf pf lf att n (sf 0)) fb (ln + 60)))), (ap, .inl (cI, 460, .inl (ftPks PG HG w d (ln + 60) (ftPks PP HH w d (ln + 60) (ftFill (fun _ => 0) fp (ln + 60)) r) g))), (an, .inl (cI, 460, .inl (ftFill (ftNoise (sf 3) (sf 5) pu) fn (ln + 60)))), (as, .inl (cI, 460, .inl (ftPut 460 g54_as (nI x) ((((ftFill (ftBase ln kf pf lf att n (sf 0)) fb (ln + 60)) x) + ((ftPks PG HG w d (ln + 60) (ftPks PP HH w d (ln + 60) (ftFill (fun _ => 0) fp (ln + 60)) r) g) x)) + ((ftFill (ftNoise (sf 3) (sf 5) pu) fn (ln + 60)) x))))), (b0, .inr (4, [.int (nI ln), .int att, .int en, .int (nI n), .ref bk, .ref bp, .ref bl, .ref br])), (bk, .inl (cI, 10, .inl kf)), (bp, .inl (cI, 10, .inl pf)), (bl, .inl (cI, 10, .inl lf)), (c0, .inr (1, [.ref ep, .ref eh, .int (nI r), .ref ef, .ref es, .ref eg, .int (nI g)])), (ep, .inl (cI, 11, .inl pe)), (eh, .inl (cI, 11, .inl he)), (ef, .inl (cI, 55, .inl f1)), (es, .inl (cI, 55, .inl f2)), (eg, .inl (cI, 55, .inl f3)), (s0, .inl (cI, 11, .inl sf)), (n0, .inr (6, [.int (ftNzs (sf 3) (sf 5) pu (ln + 60)), .int (sf 3)]))]) (va_runSN (As := [.ref as, .int (nI x), .int ((((ftFill (ftBase ln kf pf lf att n (sf 0)) fb (ln + 60)) x) + ((ftPks PG HG w d (ln + 60) (ftPks PP HH w d (ln + 60) (ftFill (fun _ => 0) fp (ln + 60)) r) g) x)) + ((ftFill (ftNoise (sf 3) (sf 5) pu) fn (ln + 60)) x))]) (rest := []) ⟨hx, hb, hml, hown, hts⟩ (c_X10_put l D cI cS H.size as 460 g54_as (nI x) ((((ftFill (ftBase ln kf pf lf att n (sf 0)) fb (ln + 60)) x) + ((ftPks PG HG w d (ln + 60) (ftPks PP HH w d (ln + 60) (ftFill (fun _ => 0) fp (ln + 60)) r) g) x)) + ((ftFill (ftNoise (sf 3) (sf 5) pu) fn (ln + 60)) x)) (by first | assumption | omega)) ⟨va_cnB 3 hts gX9_make_X10_put_n53 rfl rfl rfl (hKK.2 _ (List.mem_of_getElem? (i := 19) rfl)) (hts (.initialized RX10) (by decide +kernel)) (by decide +kernel) ⟨Nat.le_of_ble_eq_true rfl, Nat.le_of_ble_eq_true rfl⟩, hts (.static yX10_put) (by decide +kernel), trivial⟩ (ft_preRW hP hD hKK [4] rfl rfl rfl) rfl rfl hl.1 rfl (lv_room (Nat.le_of_ble_eq_true rfl)) dX9_make_98 ⟨Nat.le_of_ble_eq_true rfl, Nat.le_of_ble_eq_true rfl⟩) hP hD hS hA [4] [0, 1, 2, 3, 5, 6, 7, 8, 9, 10, 11, 12, 13, 14, 15, 16] [0, 1, 2, 3, 16, 4, 5, 6, 7, 8, 9, 10, 11, 12, 13, 14, 15] rfl rfl (by decide) (by decide) (by decide) rfl rfl (fun H locs hP hD hS => ?_)
          rw [ftPut_N (k := x) (by omega) (by omega)] at hP hD
          have hP : va_P D vwCl [(a0, .inr (9, [.ref ab, .ref ap, .ref an, .ref as, .int (nI (ln + 60)), .int (nI (ln + 60)), .int (sf 3), .int (sf 4), .int (sf 5)])), (ab, .inl (cI, 460, .inl (ftFill (ftBase ln kf pf lf att n (sf 0)) fb (ln + 60)))), (ap, .inl (cI, 460, .inl (ftPks PG HG w d (ln + 60) (ftPks PP HH w d (ln + 60) (ftFill (fun _ => 0) fp (ln + 60)) r) g))), (an, .inl (cI, 460, .inl (ftFill (ftNoise (sf 3) (sf 5) pu) fn (ln + 60)))), (as, .inl (cI, 460, .inl (upd g54_as x ((((ftFill (ftBase ln kf pf lf att n (sf 0)) fb (ln + 60)) x) + ((ftPks PG HG w d (ln + 60) (ftPks PP HH w d (ln + 60) (ftFill (fun _ => 0) fp (ln + 60)) r) g) x)) + ((ftFill (ftNoise (sf 3) (sf 5) pu) fn (ln + 60)) x))))), (b0, .inr (4, [.int (nI ln), .int att, .int en, .int (nI n), .ref bk, .ref bp, .ref bl, .ref br])), (bk, .inl (cI, 10, .inl kf)), (bp, .inl (cI, 10, .inl pf)), (bl, .inl (cI, 10, .inl lf)), (c0, .inr (1, [.ref ep, .ref eh, .int (nI r), .ref ef, .ref es, .ref eg, .int (nI g)])), (ep, .inl (cI, 11, .inl pe)), (eh, .inl (cI, 11, .inl he)), (ef, .inl (cI, 55, .inl f1)), (es, .inl (cI, 55, .inl f2)), (eg, .inl (cI, 55, .inl f3)), (s0, .inl (cI, 11, .inl sf)), (n0, .inr (6, [.int (ftNzs (sf 3) (sf 5) pu (ln + 60)), .int (sf 3)]))] H := hP
          have hD : va_D A [(a0, .inr (9, [.ref ab, .ref ap, .ref an, .ref as, .int (nI (ln + 60)), .int (nI (ln + 60)), .int (sf 3), .int (sf 4), .int (sf 5)])), (ab, .inl (cI, 460, .inl (ftFill (ftBase ln kf pf lf att n (sf 0)) fb (ln + 60)))), (ap, .inl (cI, 460, .inl (ftPks PG HG w d (ln + 60) (ftPks PP HH w d (ln + 60) (ftFill (fun _ => 0) fp (ln + 60)) r) g))), (an, .inl (cI, 460, .inl (ftFill (ftNoise (sf 3) (sf 5) pu) fn (ln + 60)))), (as, .inl (cI, 460, .inl (upd g54_as x ((((ftFill (ftBase ln kf pf lf att n (sf 0)) fb (ln + 60)) x) + ((ftPks PG HG w d (ln + 60) (ftPks PP HH w d (ln + 60) (ftFill (fun _ => 0) fp (ln + 60)) r) g) x)) + ((ftFill (ftNoise (sf 3) (sf 5) pu) fn (ln + 60)) x))))), (b0, .inr (4, [.int (nI ln), .int att, .int en, .int (nI n), .ref bk, .ref bp, .ref bl, .ref br])), (bk, .inl (cI, 10, .inl kf)), (bp, .inl (cI, 10, .inl pf)), (bl, .inl (cI, 10, .inl lf)), (c0, .inr (1, [.ref ep, .ref eh, .int (nI r), .ref ef, .ref es, .ref eg, .int (nI g)])), (ep, .inl (cI, 11, .inl pe)), (eh, .inl (cI, 11, .inl he)), (ef, .inl (cI, 55, .inl f1)), (es, .inl (cI, 55, .inl f2)), (eg, .inl (cI, 55, .inl f3)), (s0, .inl (cI, 11, .inl sf)), (n0, .inr (6, [.int (ftNzs (sf 3) (sf 5) pu (ln + 60)), .int (sf 3)]))] := hD
          refine lv_iinc (v := nI (x + 1)) (lv' := [(5, .int (nI (x + 1))), (0, .ref a0), (1, .ref b0), (2, .ref s0), (3, .ref c0), (4, .ref n0)]) hx hb dX9_make_101 hl (k := 5) rfl (ft_inc x) (by decide) rfl (fun ls hl => ?_)
          refine lv_goto (tgt := 54) hx hb dX9_make_104 (by decide) ?_
          exact ih54 (x + 1) (nI (x + 1)) (upd g54_as x ((((ftFill (ftBase ln kf pf lf att n (sf 0)) fb (ln + 60)) x) + ((ftPks PG HG w d (ln + 60) (ftPks PP HH w d (ln + 60) (ftFill (fun _ => 0) fp (ln + 60)) r) g) x)) + ((ftFill (ftNoise (sf 3) (sf 5) pu) fn (ln + 60)) x))) (by omega) (by omega) (by first | rfl | assumption) (by rw [eg54_as]; refine ftFill_s ?_; rw [ftFill_at c60n, ftSamp]; first | (rw [ftFill_at c60n]; rfl) | (rw [hca c41 x c60n]; rfl)) _ _ hP hD hS ls (lv_sub hl [1, 2, 3, 4, 5, 0] rfl)
    exact lp54 _ 0 0 fs (Nat.lt_succ_self _) (by omega) (by rfl) (by exact ftFill_0 _ fs) _ _ hP hD hS ls (lv_sub hl [1, 2, 3, 4, 5, 0] rfl)
end
section
/-! readings: events out of values -/
def ftEndK (v : Nat → Int32) (st : Int32) (L : Nat) : Nat → Nat
  | 0 => L
  | k + 1 => if ftAbs (v (L - k) - v (L - (k + 1))) ≤ st then L - (k + 1) else ftEndK v st L k
/-- where an event ends, looked for from y on; L the last place -/
def ftEnd (v : Nat → Int32) (st : Int32) (L y : Nat) : Nat := ftEndK v st L (L - y)
theorem ftEndK_le (v : Nat → Int32) (st : Int32) (L k : Nat) : ftEndK v st L k ≤ L := by
  induction k with
  | zero => exact Nat.le_refl L
  | succ k ih => unfold ftEndK; split <;> omega
theorem ftEnd_le (v : Nat → Int32) (st : Int32) (L y : Nat) : ftEnd v st L y ≤ L := ftEndK_le v st L _
theorem ftEndK_ge (v : Nat → Int32) (st : Int32) (L k : Nat) : L - k ≤ ftEndK v st L k := by
  induction k with
  | zero => exact Nat.sub_le L 0
  | succ k ih => unfold ftEndK; split <;> omega
theorem ftEnd_ge {v : Nat → Int32} {st : Int32} {L y : Nat} (h : y ≤ L) : y ≤ ftEnd v st L y := by
  have := ftEndK_ge v st L (L - y)
  unfold ftEnd
  omega
theorem ftEnd_last {v : Nat → Int32} {st : Int32} {L y : Nat} (h : L ≤ y) : ftEnd v st L y = L := by
  unfold ftEnd
  rw [show L - y = 0 by omega]; rfl
theorem ftEnd_hit {v : Nat → Int32} {st : Int32} {L y : Nat} (h : y < L) (q : ftAbs (v (y + 1) - v y) ≤ st) : ftEnd v st L y = y := by
  unfold ftEnd
  obtain ⟨k, hk⟩ : ∃ k, L - y = k + 1 := ⟨L - y - 1, by omega⟩
  rw [hk, ftEndK, show L - k = y + 1 by omega, show L - (k + 1) = y by omega, if_pos q]
theorem ftEnd_go {v : Nat → Int32} {st : Int32} {L y : Nat} (h : y < L) (q : ¬ ftAbs (v (y + 1) - v y) ≤ st) : ftEnd v st L y = ftEnd v st L (y + 1) := by
  unfold ftEnd
  obtain ⟨k, hk⟩ : ∃ k, L - y = k + 1 := ⟨L - y - 1, by omega⟩
  rw [hk, ftEndK, show L - k = y + 1 by omega, show L - (k + 1) = y by omega, if_neg q, show L - (y + 1) = k by omega]
/-- the greatest of v x and the d behind it -/
def ftGr (v : Nat → Int32) (x : Nat) : Nat → Int32
  | 0 => v x
  | d + 1 => ftMax (ftGr v x d) (v (x + (d + 1)))
/-- an event's rows: begin, end, loss, height, kind, section ahead, makers -/
def ftEvV (v : Nat → Int32) (x y sb : Nat) (rb : Int32) : Nat → Int32
  | 0 => nI x
  | 1 => nI y
  | 2 => v (x - 1) - v y
  | 3 => if rb = 0 then 0 else ftGr v x (y - x) - v (x - 1)
  | 4 => if rb = 0 then 0 else 1
  | 5 => v sb - v (x - 1)
  | _ => -1
def ftSb (ro : Nat → Nat → Int32) (k : Nat) : Nat := if k = 0 then 0 else (ro 1 (k - 1)).toNatClampNeg
set_option maxHeartbeats 4000000 in
set_option maxRecDepth 100000 in
theorem c_X7_endFrom (l : Launch) (D : va_G) (cI cS : ClassId) (va : Nat) (v : Nat → Int32) (N y : Nat) (st : Int32) (hN0 : 0 < N) (hN : N ≤ 460) (hy4 : y ≤ 1000) : Met l yX7_endFrom wsX7_endFrom ({ frames := 1, cells := 0, slots := 0, locals := 30 }) (ftRO D cI cS [.ref va, .int (nI N), .int (nI y), .int st] [(va, .inl (cI, 460, .inl v))]) (vp_Si (fun o9 => o9 = nI (ftEnd v st (N - 1) y))) 0 0 (fun _ => False) := by
  refine Met.ofW (cc := cX7_endFrom) (maxL := 5) (ret := (some .int)) (by decide) rfl ?_
  intro p e s m args below meth c s₁ B hml hv
  obtain ⟨rfl, hP, hKK⟩ := hv
  have hK := hKK.1
  have hx := B.exec
  have hb := B.bytes
  have hr := B.returns
  have hts := atoms_spec (ws := wsX7_endFrom) B.pre
  have hown : s.vm.findClass RX7 = some m.cls := findClass_of_methodNamed B.named
  have hlocks := B.notSynchronized
  have hP : va_P D vwCl [(va, .inl (cI, 460, .inl v))] s.heap := hP
  have hl := lv_entry ([.ref va, .int (nI N), .int (nI y), .int st]) (n := 5) (Nat.le_of_ble_eq_true rfl)
  rw [lg_entry_eq]
  generalize (lg_sl ([.ref va, .int (nI N), .int (nI y), .int st]) ++ List.replicate (5 - (lg_sl ([.ref va, .int (nI N), .int (nI y), .int st])).length) Slot.unset).toArray = ls at hl ⊢
  have hl : lv_has ls 5 [(0, .ref va), (1, .int (nI N)), (2, .int (nI y)), (3, .int st)] := hl
  refine lv_iload_n hx hb dX7_endFrom_0 rfl (lv_at hl 2 rfl) ?_
  refine lv_istore (lv' := [(4, .int (nI y)), (0, .ref va), (1, .int (nI N)), (2, .int (nI y)), (3, .int st)]) hx hb dX7_endFrom_1 hl (by decide) rfl (fun ls hl => ?_)
  have lp3 : ∀ (n3 : Nat) (x : Nat) (x3_4 : Int32), 1001 - x < n3 → (x ≤ 1000) → (ftEnd v st (N - 1) y = ftEnd v st (N - 1) x) → x3_4 = nI x → ∀ ls : Array Slot, lv_has ls 5 [(0, .ref va), (1, .int (nI N)), (2, .int (nI y)), (3, .int st), (4, .int x3_4)] → W p l e (headSpec wsX7_endFrom { frames := 1, cells := 0, slots := 0, locals := 30 }).room s m ([.ref va, .int (nI N), .int (nI y), .int st] : List Value).toArray below meth c s.heap [] 0 0 (MQ below (vp_Si (fun o9 => o9 = nI (ftEnd v st (N - 1) y))) ([.ref va, .int (nI N), .int (nI y), .int st] : List Value).toArray s 0 0 (fun _ => False)) (F0 m 3 ls []) := by
    intro n3
    induction n3 with
    | zero =>
      intro x x3_4  hm3
      exact absurd hm3 (Nat.not_lt_zero _)
    | succ n3 ih3 =>
      intro x x3_4  hm3 hx4 hres ex3_4  ls hl
      subst ex3_4
      refine lv_iload hx hb dX7_endFrom_3 (lv_at hl 4 rfl) ?_
      refine lv_iload_n hx hb dX7_endFrom_5 rfl (lv_at hl 1 rfl) ?_
      refine lv_iconst (v := 1) hx hb dX7_endFrom_6 (by decide) ?_
      refine lv_isub hx hb dX7_endFrom_7 ?_
      refine ft_top (y := nI (N - 1)) (ft_subN (a := N) (b := 1) (by omega)) ?_
      refine lv_icmp_ge (tgt := 42) hx hb dX7_endFrom_8 (by decide) (fun c8 => ?_) (fun c8 => ?_)
      · have c8n : (N - 1) ≤ x := ft_leN (by omega) (by omega) c8
        refine lv_iload_n hx hb dX7_endFrom_42 rfl (lv_at hl 1 rfl) ?_
        refine lv_iconst (v := 1) hx hb dX7_endFrom_43 (by decide) ?_
        refine lv_isub hx hb dX7_endFrom_44 ?_
        refine ft_top (y := nI (N - 1)) (ft_subN (a := N) (b := 1) (by omega)) ?_
        exact W.iret (v := nI (N - 1)) hx hb hr (fun t ht hW => ⟨nI (N - 1), rfl, (by show (nI (N - 1) : Int32) = nI (ftEnd v st (N - 1) y); rw [hres, ftEnd_last (by omega)]), ht⟩) (fun _ h9 => absurd h9 List.not_mem_nil) dX7_endFrom_45
      · have c8n : x < (N - 1) := ft_nleN (by omega) (by omega) c8
        refine lv_aload_n hx hb dX7_endFrom_11 rfl (lv_at hl 0 rfl) ?_
        refine lv_iload hx hb dX7_endFrom_12 (lv_at hl 4 rfl) ?_
        refine lv_iconst (v := 1) hx hb dX7_endFrom_14 (by decide) ?_
        refine lv_iadd hx hb dX7_endFrom_15 ?_
        refine ft_top (y := nI (x + 1)) (ft_addN x 1) ?_
        refine ft_csi (r := ftAt 460 v (nI (x + 1))) (va_runSN (As := [.ref va, .int (nI (x + 1))]) (rest := []) ⟨hx, hb, hml, hown, hts⟩ (c_X10_at l D cI cS va 460 v (nI (x + 1)) (by first | assumption | omega)) ⟨va_cnB 2 hts gX7_endFrom_X10_at_n40 rfl rfl rfl (hKK.2 _ (List.mem_of_getElem? (i := 22) rfl)) (hts (.initialized RX10) (by decide +kernel)) (by decide +kernel) ⟨Nat.le_of_ble_eq_true rfl, Nat.le_of_ble_eq_true rfl⟩, hts (.static yX10_at) (by decide +kernel), trivial⟩ (ft_preRO hP hKK [0] rfl) rfl rfl hl.1 rfl (lv_room (Nat.le_of_ble_eq_true rfl)) dX7_endFrom_16 ⟨Nat.le_of_ble_eq_true rfl, Nat.le_of_ble_eq_true rfl⟩) ?_
        refine ft_top (y := v (x + 1)) (ftAt_N (by omega) (by omega)) ?_
        refine lv_aload_n hx hb dX7_endFrom_19 rfl (lv_at hl 0 rfl) ?_
        refine lv_iload hx hb dX7_endFrom_20 (lv_at hl 4 rfl) ?_
        refine ft_csi (r := ftAt 460 v (nI x)) (va_runSN (As := [.ref va, .int (nI x)]) (rest := [.int (v (x + 1))]) ⟨hx, hb, hml, hown, hts⟩ (c_X10_at l D cI cS va 460 v (nI x) (by first | assumption | omega)) ⟨va_cnB 2 hts gX7_endFrom_X10_at_n40 rfl rfl rfl (hKK.2 _ (List.mem_of_getElem? (i := 22) rfl)) (hts (.initialized RX10) (by decide +kernel)) (by decide +kernel) ⟨Nat.le_of_ble_eq_true rfl, Nat.le_of_ble_eq_true rfl⟩, hts (.static yX10_at) (by decide +kernel), trivial⟩ (ft_preRO hP hKK [0] rfl) rfl rfl hl.1 rfl (lv_room (Nat.le_of_ble_eq_true rfl)) dX7_endFrom_22 ⟨Nat.le_of_ble_eq_true rfl, Nat.le_of_ble_eq_true rfl⟩) ?_
        refine ft_top (y := v x) (ftAt_N (by omega) (by omega)) ?_
        refine lv_isub hx hb dX7_endFrom_25 ?_
        refine va_mabs hx hb (hml.trans hl.1.symm) hown (hts (.methodLink RX7 65 Lib.Math.abs.name) (by decide +kernel)) (hts (.static Lib.Math.abs.name) (by decide +kernel)) (hts (.initialized "java/lang/Math") (by decide +kernel)) (hts (.code Lib.Math.abs.name Lib.Math.abs.code 1 (some .int)) (by decide +kernel)) (Nat.le_of_ble_eq_true rfl) (Nat.le_of_ble_eq_true rfl) (Nat.le_of_ble_eq_true rfl) (Nat.le_of_ble_eq_true rfl) dX7_endFrom_26 ?_
        refine ft_top (y := ftAbs ((v (x + 1)) - (v x))) rfl ?_
        refine lv_iload_n hx hb dX7_endFrom_29 rfl (lv_at hl 3 rfl) ?_
        refine lv_icmp_gt (tgt := 36) hx hb dX7_endFrom_30 (by decide) (fun c30 => ?_) (fun c30 => ?_)
        · refine lv_iinc (v := nI (x + 1)) (lv' := [(4, .int (nI (x + 1))), (0, .ref va), (1, .int (nI N)), (2, .int (nI y)), (3, .int st)]) hx hb dX7_endFrom_36 hl (k := 4) rfl (ft_inc x) (by decide) rfl (fun ls hl => ?_)
          refine lv_goto (tgt := 3) hx hb dX7_endFrom_39 (by decide) ?_
          exact ih3 (x + 1) (nI (x + 1))  (by omega) (by omega) (by rw [hres]; exact ftEnd_go (by omega) (Int32.not_le.mpr c30)) (by first | rfl | assumption)  ls (lv_sub hl [1, 2, 3, 4, 0] rfl)
        · refine lv_iload hx hb dX7_endFrom_33 (lv_at hl 4 rfl) ?_
          exact W.iret (v := nI x) hx hb hr (fun t ht hW => ⟨nI x, rfl, (by show (nI x : Int32) = nI (ftEnd v st (N - 1) y); rw [hres, ftEnd_hit (by omega) (Int32.not_lt.mp c30)]), ht⟩) (fun _ h9 => absurd h9 List.not_mem_nil) dX7_endFrom_35
  exact lp3 _ y (nI y)  (Nat.lt_succ_self _) (by omega) (by rfl) (by rfl) ls (lv_sub hl [1, 2, 3, 4, 0] rfl)
set_option maxHeartbeats 4000000 in
set_option maxRecDepth 100000 in
theorem c_X7_greatestOf (l : Launch) (D : va_G) (cI cS : ClassId) (va : Nat) (v : Nat → Int32) (x y : Nat) (hxy : x ≤ y) (hy : y < 460) : Met l yX7_greatestOf wsX7_greatestOf ({ frames := 1, cells := 0, slots := 0, locals := 30 }) (ftRO D cI cS [.ref va, .int (nI x), .int (nI y)] [(va, .inl (cI, 460, .inl v))]) (vp_Si (fun o9 => o9 = ftGr v x (y - x))) 0 0 (fun _ => False) := by
  refine Met.ofW (cc := cX7_greatestOf) (maxL := 5) (ret := (some .int)) (by decide) rfl ?_
  intro p e s m args below meth c s₁ B hml hv
  obtain ⟨rfl, hP, hKK⟩ := hv
  have hK := hKK.1
  have hx := B.exec
  have hb := B.bytes
  have hr := B.returns
  have hts := atoms_spec (ws := wsX7_greatestOf) B.pre
  have hown : s.vm.findClass RX7 = some m.cls := findClass_of_methodNamed B.named
  have hlocks := B.notSynchronized
  have hP : va_P D vwCl [(va, .inl (cI, 460, .inl v))] s.heap := hP
  have hl := lv_entry ([.ref va, .int (nI x), .int (nI y)]) (n := 5) (Nat.le_of_ble_eq_true rfl)
  rw [lg_entry_eq]
  generalize (lg_sl ([.ref va, .int (nI x), .int (nI y)]) ++ List.replicate (5 - (lg_sl ([.ref va, .int (nI x), .int (nI y)])).length) Slot.unset).toArray = ls at hl ⊢
  have hl : lv_has ls 5 [(0, .ref va), (1, .int (nI x)), (2, .int (nI y))] := hl
  refine lv_aload_n hx hb dX7_greatestOf_0 rfl (lv_at hl 0 rfl) ?_
  refine lv_iload_n hx hb dX7_greatestOf_1 rfl (lv_at hl 1 rfl) ?_
  refine ft_csi (r := ftAt 460 v (nI x)) (va_runSN (As := [.ref va, .int (nI x)]) (rest := []) ⟨hx, hb, hml, hown, hts⟩ (c_X10_at l D cI cS va 460 v (nI x) (by first | assumption | omega)) ⟨va_cnB 2 hts gX7_greatestOf_X10_at_n40 rfl rfl rfl (hKK.2 _ (List.mem_of_getElem? (i := 22) rfl)) (hts (.initialized RX10) (by decide +kernel)) (by decide +kernel) ⟨Nat.le_of_ble_eq_true rfl, Nat.le_of_ble_eq_true rfl⟩, hts (.static yX10_at) (by decide +kernel), trivial⟩ (ft_preRO hP hKK [0] rfl) rfl rfl hl.1 rfl (lv_room (Nat.le_of_ble_eq_true rfl)) dX7_greatestOf_2 ⟨Nat.le_of_ble_eq_true rfl, Nat.le_of_ble_eq_true rfl⟩) ?_
  refine ft_top (y := v x) (ftAt_N (by omega) (by omega)) ?_
  refine lv_istore_n (lv' := [(3, .int (v x)), (0, .ref va), (1, .int (nI x)), (2, .int (nI y))]) hx hb dX7_greatestOf_5 rfl hl (by decide) rfl (fun ls hl => ?_)
  refine lv_iload_n hx hb dX7_greatestOf_6 rfl (lv_at hl 2 rfl) ?_
  refine lv_iconst (v := 1) hx hb dX7_greatestOf_7 (by decide) ?_
  refine lv_iadd hx hb dX7_greatestOf_8 ?_
  refine ft_top (y := nI (x + 1)) (ft_addN x 1) ?_
  refine lv_istore (lv' := [(4, .int (nI (x + 1))), (3, .int (v x)), (0, .ref va), (1, .int (nI x)), (2, .int (nI y))]) hx hb dX7_greatestOf_9 hl (by decide) rfl (fun ls hl => ?_)
  have lp11 : ∀ (n11 : Nat) (d : Nat) (x11_3 : Int32) (x11_4 : Int32), y + 1 - (x + d) < n11 → (x + d ≤ y) → x11_3 = ftGr v x d → x11_4 = nI (x + (d + 1)) → ∀ ls : Array Slot, lv_has ls 5 [(0, .ref va), (1, .int (nI x)), (2, .int (nI y)), (3, .int x11_3), (4, .int x11_4)] → W p l e (headSpec wsX7_greatestOf { frames := 1, cells := 0, slots := 0, locals := 30 }).room s m ([.ref va, .int (nI x), .int (nI y)] : List Value).toArray below meth c s.heap [] 0 0 (MQ below (vp_Si (fun o9 => o9 = ftGr v x (y - x))) ([.ref va, .int (nI x), .int (nI y)] : List Value).toArray s 0 0 (fun _ => False)) (F0 m 11 ls []) := by
    intro n11
    induction n11 with
    | zero =>
      intro d x11_3 x11_4  hm11
      exact absurd hm11 (Nat.not_lt_zero _)
    | succ n11 ih11 =>
      intro d x11_3 x11_4  hm11 hd ex11_3 ex11_4  ls hl
      subst ex11_4
      refine lv_iload hx hb dX7_greatestOf_11 (lv_at hl 4 rfl) ?_
      refine lv_iload_n hx hb dX7_greatestOf_13 rfl (lv_at hl 2 rfl) ?_
      refine lv_icmp_gt (tgt := 34) hx hb dX7_greatestOf_14 (by decide) (fun c14 => ?_) (fun c14 => ?_)
      · have c14n : y < (x + (d + 1)) := ft_ltN (by omega) (by omega) c14
        refine lv_iload_n hx hb dX7_greatestOf_34 rfl (lv_at hl 3 rfl) ?_
        exact W.iret (v := x11_3) hx hb hr (fun t ht hW => ⟨x11_3, rfl, (by show (x11_3 : Int32) = ftGr v x (y - x); (have h9 : d = y - x := by omega); rw [ex11_3, h9]), ht⟩) (fun _ h9 => absurd h9 List.not_mem_nil) dX7_greatestOf_35
      · have c14n : (x + (d + 1)) ≤ y := ft_nltN (by omega) (by omega) c14
        refine lv_iload_n hx hb dX7_greatestOf_17 rfl (lv_at hl 3 rfl) ?_
        refine lv_aload_n hx hb dX7_greatestOf_18 rfl (lv_at hl 0 rfl) ?_
        refine lv_iload hx hb dX7_greatestOf_19 (lv_at hl 4 rfl) ?_
        refine ft_csi (r := ftAt 460 v (nI (x + (d + 1)))) (va_runSN (As := [.ref va, .int (nI (x + (d + 1)))]) (rest := [.int x11_3]) ⟨hx, hb, hml, hown, hts⟩ (c_X10_at l D cI cS va 460 v (nI (x + (d + 1))) (by first | assumption | omega)) ⟨va_cnB 2 hts gX7_greatestOf_X10_at_n40 rfl rfl rfl (hKK.2 _ (List.mem_of_getElem? (i := 22) rfl)) (hts (.initialized RX10) (by decide +kernel)) (by decide +kernel) ⟨Nat.le_of_ble_eq_true rfl, Nat.le_of_ble_eq_true rfl⟩, hts (.static yX10_at) (by decide +kernel), trivial⟩ (ft_preRO hP hKK [0] rfl) rfl rfl hl.1 rfl (lv_room (Nat.le_of_ble_eq_true rfl)) dX7_greatestOf_21 ⟨Nat.le_of_ble_eq_true rfl, Nat.le_of_ble_eq_true rfl⟩) ?_
        refine ft_top (y := v (x + (d + 1))) (ftAt_N (by omega) (by omega)) ?_
        refine va_mmax hx hb (hml.trans hl.1.symm) hown (hts (.methodLink RX7 59 Lib.Math.max.name) (by decide +kernel)) (hts (.static Lib.Math.max.name) (by decide +kernel)) (hts (.initialized "java/lang/Math") (by decide +kernel)) (hts (.code Lib.Math.max.name Lib.Math.max.code 2 (some .int)) (by decide +kernel)) (Nat.le_of_ble_eq_true rfl) (Nat.le_of_ble_eq_true rfl) (Nat.le_of_ble_eq_true rfl) (Nat.le_of_ble_eq_true rfl) dX7_greatestOf_24 ?_
        refine ft_top (y := ftMax x11_3 (v (x + (d + 1)))) rfl ?_
        refine lv_istore_n (lv' := [(3, .int (ftMax x11_3 (v (x + (d + 1))))), (0, .ref va), (1, .int (nI x)), (2, .int (nI y)), (4, .int (nI (x + (d + 1))))]) hx hb dX7_greatestOf_27 rfl hl (by decide) rfl (fun ls hl => ?_)
        refine lv_iinc (v := nI (x + (d + 1) + 1)) (lv' := [(4, .int (nI (x + (d + 1) + 1))), (3, .int (ftMax x11_3 (v (x + (d + 1))))), (0, .ref va), (1, .int (nI x)), (2, .int (nI y))]) hx hb dX7_greatestOf_28 hl (k := 4) rfl (ft_inc (x + (d + 1))) (by decide) rfl (fun ls hl => ?_)
        refine lv_goto (tgt := 11) hx hb dX7_greatestOf_31 (by decide) ?_
        exact ih11 (d + 1) (ftMax x11_3 (v (x + (d + 1)))) (nI (x + (d + 1) + 1))  (by omega) (by omega) (by rw [ex11_3]; rfl) (by rfl)  ls (lv_sub hl [2, 3, 4, 1, 0] rfl)
  exact lp11 _ 0 (v x) (nI (x + 1))  (Nat.lt_succ_self _) (by omega) (by rfl) (by rfl) ls (lv_sub hl [2, 3, 4, 1, 0] rfl)
set_option maxHeartbeats 4000000 in
set_option maxRecDepth 100000 in
theorem c_X7_addEvent (l : Launch) (D : va_G) (cI cS : ClassId) (sz : Nat) (a0 r0 r1 r2 r3 r4 r5 r6 r7 k : Nat) (tl : Int32) (ro : Nat → Nat → Int32) (va : Nat) (v : Nat → Int32) (x y : Nat) (rb : Int32) (hk : k < 30) (hx1 : 1 ≤ x) (hxy : x ≤ y) (hy : y < 460) (hsb : 0 < k → ∃ e, e < 460 ∧ ro 1 (k - 1) = nI e) : Met l yX7_addEvent wsX7_addEvent ({ frames := 2, cells := 0, slots := 0, locals := 54 }) (ftRW D cI cS [.ref a0, .ref va, .int (nI x), .int (nI y), .int rb] [(a0, .inr (7, [.ref r0, .ref r1, .ref r2, .ref r3, .ref r4, .ref r5, .ref r6, .ref r7, .int (nI k), .int tl])), (r0, .inl (cI, 30, .inl (ro 0))), (r1, .inl (cI, 30, .inl (ro 1))), (r2, .inl (cI, 30, .inl (ro 2))), (r3, .inl (cI, 30, .inl (ro 3))), (r4, .inl (cI, 30, .inl (ro 4))), (r5, .inl (cI, 30, .inl (ro 5))), (r6, .inl (cI, 30, .inl (ro 6))), (r7, .inl (cI, 30, .inl (ro 7))), (va, .inl (cI, 460, .inl v))] sz) (ftQv D [(a0, .inr (7, [.ref r0, .ref r1, .ref r2, .ref r3, .ref r4, .ref r5, .ref r6, .ref r7, .int (nI k), .int tl])), (r0, .inl (cI, 30, .inl (ro 0))), (r1, .inl (cI, 30, .inl (ro 1))), (r2, .inl (cI, 30, .inl (ro 2))), (r3, .inl (cI, 30, .inl (ro 3))), (r4, .inl (cI, 30, .inl (ro 4))), (r5, .inl (cI, 30, .inl (ro 5))), (r6, .inl (cI, 30, .inl (ro 6))), (r7, .inl (cI, 30, .inl (ro 7))), (va, .inl (cI, 460, .inl v))] [(a0, .inr (7, [.ref r0, .ref r1, .ref r2, .ref r3, .ref r4, .ref r5, .ref r6, .ref r7, .int (nI (k + 1)), .int tl])), (r0, .inl (cI, 30, .inl (upd (ro 0) k (ftEvV v x y (ftSb ro k) rb 0)))), (r1, .inl (cI, 30, .inl (upd (ro 1) k (ftEvV v x y (ftSb ro k) rb 1)))), (r2, .inl (cI, 30, .inl (upd (ro 2) k (ftEvV v x y (ftSb ro k) rb 2)))), (r3, .inl (cI, 30, .inl (upd (ro 3) k (ftEvV v x y (ftSb ro k) rb 3)))), (r4, .inl (cI, 30, .inl (upd (ro 4) k (ftEvV v x y (ftSb ro k) rb 4)))), (r5, .inl (cI, 30, .inl (upd (ro 5) k (ftEvV v x y (ftSb ro k) rb 5)))), (r6, .inl (cI, 30, .inl (upd (ro 6) k (ftEvV v x y (ftSb ro k) rb 6)))), (r7, .inl (cI, 30, .inl (upd (ro 7) k (ftEvV v x y (ftSb ro k) rb 7)))), (va, .inl (cI, 460, .inl v))] sz) 0 0 (va_A [(a0, .inr (7, [.ref r0, .ref r1, .ref r2, .ref r3, .ref r4, .ref r5, .ref r6, .ref r7, .int (nI k), .int tl])), (r0, .inl (cI, 30, .inl (ro 0))), (r1, .inl (cI, 30, .inl (ro 1))), (r2, .inl (cI, 30, .inl (ro 2))), (r3, .inl (cI, 30, .inl (ro 3))), (r4, .inl (cI, 30, .inl (ro 4))), (r5, .inl (cI, 30, .inl (ro 5))), (r6, .inl (cI, 30, .inl (ro 6))), (r7, .inl (cI, 30, .inl (ro 7))), (va, .inl (cI, 460, .inl v))] sz) := by
  refine Met.ofW (cc := cX7_addEvent) (maxL := 7) (ret := none) (by decide) rfl ?_
  intro p e s m args below meth c s₁ B hml hv
  obtain ⟨rfl, hsz, hP, hKK, hD0⟩ := hv
  have hK := hKK.1
  have hx := B.exec
  have hb := B.bytes
  have hr := B.returns
  have hts := atoms_spec (ws := wsX7_addEvent) B.pre
  have hown : s.vm.findClass RX7 = some m.cls := findClass_of_methodNamed B.named
  have hlocks := B.notSynchronized
  subst hsz
  have hD := hD0.self (sz := s.heap.size)
  generalize hAe : va_A [(a0, .inr (7, [.ref r0, .ref r1, .ref r2, .ref r3, .ref r4, .ref r5, .ref r6, .ref r7, .int (nI k), .int tl])), (r0, .inl (cI, 30, .inl (ro 0))), (r1, .inl (cI, 30, .inl (ro 1))), (r2, .inl (cI, 30, .inl (ro 2))), (r3, .inl (cI, 30, .inl (ro 3))), (r4, .inl (cI, 30, .inl (ro 4))), (r5, .inl (cI, 30, .inl (ro 5))), (r6, .inl (cI, 30, .inl (ro 6))), (r7, .inl (cI, 30, .inl (ro 7))), (va, .inl (cI, 460, .inl v))] s.heap.size = A at hD ⊢
  have hA : ∀ q : Nat, s.heap.size ≤ q → A q := fun q h => by rw [← hAe]; exact Or.inr h
  have hS : va_S A s.heap s.heap [] := va_S.rf
  have hD : va_D A [(a0, .inr (7, [.ref r0, .ref r1, .ref r2, .ref r3, .ref r4, .ref r5, .ref r6, .ref r7, .int (nI k), .int tl])), (r0, .inl (cI, 30, .inl (ro 0))), (r1, .inl (cI, 30, .inl (ro 1))), (r2, .inl (cI, 30, .inl (ro 2))), (r3, .inl (cI, 30, .inl (ro 3))), (r4, .inl (cI, 30, .inl (ro 4))), (r5, .inl (cI, 30, .inl (ro 5))), (r6, .inl (cI, 30, .inl (ro 6))), (r7, .inl (cI, 30, .inl (ro 7))), (va, .inl (cI, 460, .inl v))] := hD
  have hP : va_P D vwCl [(a0, .inr (7, [.ref r0, .ref r1, .ref r2, .ref r3, .ref r4, .ref r5, .ref r6, .ref r7, .int (nI k), .int tl])), (r0, .inl (cI, 30, .inl (ro 0))), (r1, .inl (cI, 30, .inl (ro 1))), (r2, .inl (cI, 30, .inl (ro 2))), (r3, .inl (cI, 30, .inl (ro 3))), (r4, .inl (cI, 30, .inl (ro 4))), (r5, .inl (cI, 30, .inl (ro 5))), (r6, .inl (cI, 30, .inl (ro 6))), (r7, .inl (cI, 30, .inl (ro 7))), (va, .inl (cI, 460, .inl v))] s.heap := hP
  have hl := lv_entry ([.ref a0, .ref va, .int (nI x), .int (nI y), .int rb]) (n := 7) (Nat.le_of_ble_eq_true rfl)
  rw [lg_entry_eq]
  generalize (lg_sl ([.ref a0, .ref va, .int (nI x), .int (nI y), .int rb]) ++ List.replicate (7 - (lg_sl ([.ref a0, .ref va, .int (nI x), .int (nI y), .int rb])).length) Slot.unset).toArray = ls at hl ⊢
  have hl : lv_has ls 7 [(0, .ref a0), (1, .ref va), (2, .int (nI x)), (3, .int (nI y)), (4, .int rb)] := hl
  refine lv_aload_n hx hb dX7_addEvent_0 rfl (lv_at hl 1 rfl) ?_
  refine lv_iload_n hx hb dX7_addEvent_1 rfl (lv_at hl 2 rfl) ?_
  refine lv_iconst (v := 1) hx hb dX7_addEvent_2 (by decide) ?_
  refine lv_isub hx hb dX7_addEvent_3 ?_
  refine ft_top (y := nI (x - 1)) (ft_subN (a := x) (b := 1) (by omega)) ?_
  refine ft_csi (r := ftAt 460 v (nI (x - 1))) (va_runSN (As := [.ref va, .int (nI (x - 1))]) (rest := []) ⟨hx, hb, hml, hown, hts⟩ (c_X10_at l D cI cS va 460 v (nI (x - 1)) (by first | assumption | omega)) ⟨va_cnB 2 hts gX7_addEvent_X10_at_n40 rfl rfl rfl (hKK.2 _ (List.mem_of_getElem? (i := 22) rfl)) (hts (.initialized RX10) (by decide +kernel)) (by decide +kernel) ⟨Nat.le_of_ble_eq_true rfl, Nat.le_of_ble_eq_true rfl⟩, hts (.static yX10_at) (by decide +kernel), trivial⟩ (ft_preRO hP hKK [9] rfl) rfl rfl hl.1 rfl (lv_room (Nat.le_of_ble_eq_true rfl)) dX7_addEvent_4 ⟨Nat.le_of_ble_eq_true rfl, Nat.le_of_ble_eq_true rfl⟩) ?_
  refine ft_top (y := v (x - 1)) (ftAt_N (by omega) (by omega)) ?_
  refine lv_istore (lv' := [(5, .int (v (x - 1))), (0, .ref a0), (1, .ref va), (2, .int (nI x)), (3, .int (nI y)), (4, .int rb)]) hx hb dX7_addEvent_7 hl (by decide) rfl (fun ls hl => ?_)
  refine lv_aload_n hx hb dX7_addEvent_9 rfl (lv_at hl 1 rfl) ?_
  refine va_get (D := D) (ci := 7) (v := .int (nI k)) (C := RX7) (T := TX7) (N := 10) hx hb hts (by decide +kernel) hown hK hP 0 rfl rfl 8 (by decide) (hts (.fieldLink RX7 36 "FiberTrace$Reading" "size" "I") (by decide +kernel)) (fun _ h9 => h9) rfl dX7_addEvent_10 ?_
  refine lv_if_ne (tgt := 20) hx hb dX7_addEvent_13 (by decide) (fun c13 => ?_) (fun c13 => ?_)
  · have c13n : k ≠ 0 := ft_neN (by omega) (by omega) c13
    obtain ⟨y9, hy9, hy9e⟩ := hsb (by omega)
    have hsb9 : ftSb ro k = y9 := by unfold ftSb; rw [if_neg (by omega), hy9e, nI_clamp (by omega)]
    refine lv_aload_n hx hb dX7_addEvent_20 rfl (lv_at hl 1 rfl) ?_
    refine va_get (D := D) (ci := 7) (v := .ref r1) (C := RX7) (T := TX7) (N := 10) hx hb hts (by decide +kernel) hown hK hP 0 rfl rfl 1 (by decide) (hts (.fieldLink RX7 15 "FiberTrace$Reading" "ends" "[I") (by decide +kernel)) (fun _ h9 => h9) rfl dX7_addEvent_21 ?_
    refine lv_aload_n hx hb dX7_addEvent_24 rfl (lv_at hl 1 rfl) ?_
    refine va_get (D := D) (ci := 7) (v := .int (nI k)) (C := RX7) (T := TX7) (N := 10) hx hb hts (by decide +kernel) hown hK hP 0 rfl rfl 8 (by decide) (hts (.fieldLink RX7 36 "FiberTrace$Reading" "size" "I") (by decide +kernel)) (fun _ h9 => h9) rfl dX7_addEvent_25 ?_
    refine lv_iconst (v := 1) hx hb dX7_addEvent_28 (by decide) ?_
    refine lv_isub hx hb dX7_addEvent_29 ?_
    refine ft_top (y := nI (k - 1)) (ft_subN (a := k) (b := 1) (by omega)) ?_
    refine ft_csi (r := ftAt 30 (ro 1) (nI (k - 1))) (va_runSN (As := [.ref r1, .int (nI (k - 1))]) (rest := []) ⟨hx, hb, hml, hown, hts⟩ (c_X10_at l D cI cS r1 30 (ro 1) (nI (k - 1)) (by first | assumption | omega)) ⟨va_cnB 2 hts gX7_addEvent_X10_at_n40 rfl rfl rfl (hKK.2 _ (List.mem_of_getElem? (i := 22) rfl)) (hts (.initialized RX10) (by decide +kernel)) (by decide +kernel) ⟨Nat.le_of_ble_eq_true rfl, Nat.le_of_ble_eq_true rfl⟩, hts (.static yX10_at) (by decide +kernel), trivial⟩ (ft_preRO hP hKK [2] rfl) rfl rfl hl.1 rfl (lv_room (Nat.le_of_ble_eq_true rfl)) dX7_addEvent_30 ⟨Nat.le_of_ble_eq_true rfl, Nat.le_of_ble_eq_true rfl⟩) ?_
    refine ft_top (y := (ro 1) (k - 1)) (ftAt_N (by omega) (by omega)) ?_
    refine ft_top (y := nI y9) hy9e ?_
    refine lv_istore (lv' := [(6, .int (nI y9)), (5, .int (v (x - 1))), (0, .ref a0), (1, .ref va), (2, .int (nI x)), (3, .int (nI y)), (4, .int rb)]) hx hb dX7_addEvent_33 hl (by decide) rfl (fun ls hl => ?_)
    refine lv_aload_n hx hb dX7_addEvent_35 rfl (lv_at hl 2 rfl) ?_
    refine va_get (D := D) (ci := 7) (v := .ref r0) (C := RX7) (T := TX7) (N := 10) hx hb hts (by decide +kernel) hown hK hP 0 rfl rfl 0 (by decide) (hts (.fieldLink RX7 9 "FiberTrace$Reading" "begins" "[I") (by decide +kernel)) (fun _ h9 => h9) rfl dX7_addEvent_36 ?_
    refine lv_aload_n hx hb dX7_addEvent_39 rfl (lv_at hl 2 rfl) ?_
    refine va_get (D := D) (ci := 7) (v := .int (nI k)) (C := RX7) (T := TX7) (N := 10) hx hb hts (by decide +kernel) hown hK hP 0 rfl rfl 8 (by decide) (hts (.fieldLink RX7 36 "FiberTrace$Reading" "size" "I") (by decide +kernel)) (fun _ h9 => h9) rfl dX7_addEvent_40 ?_
    refine lv_iload_n hx hb dX7_addEvent_43 rfl (lv_at hl 4 rfl) ?_
    refine ft_cv (wc := [(r0, .inl (cI, 30, .inl (ro 0)))]) (wr := [(a0, .inr (7, [.ref r0, .ref r1, .ref r2, .ref r3, .ref r4, .ref r5, .ref r6, .ref r7, .int (nI k), .int tl])), (r1, .inl (cI, 30, .inl (ro 1))), (r2, .inl (cI, 30, .inl (ro 2))), (r3, .inl (cI, 30, .inl (ro 3))), (r4, .inl (cI, 30, .inl (ro 4))), (r5, .inl (cI, 30, .inl (ro 5))), (r6, .inl (cI, 30, .inl (ro 6))), (r7, .inl (cI, 30, .inl (ro 7))), (va, .inl (cI, 460, .inl v))]) (w1 := [(r0, .inl (cI, 30, .inl (ftPut 30 (ro 0) (nI k) (nI x))))]) (ws1 := [(a0, .inr (7, [.ref r0, .ref r1, .ref r2, .ref r3, .ref r4, .ref r5, .ref r6, .ref r7, .int (nI k), .int tl])), (r0, .inl (cI, 30, .inl (ftPut 30 (ro 0) (nI k) (nI x)))), (r1, .inl (cI, 30, .inl (ro 1))), (r2, .inl (cI, 30, .inl (ro 2))), (r3, .inl (cI, 30, .inl (ro 3))), (r4, .inl (cI, 30, .inl (ro 4))), (r5, .inl (cI, 30, .inl (ro 5))), (r6, .inl (cI, 30, .inl (ro 6))), (r7, .inl (cI, 30, .inl (ro 7))), (va, .inl (cI, 460, .inl v))]) (va_runSN (As := [.ref r0, .int (nI k), .int (nI x)]) (rest := []) ⟨hx, hb, hml, hown, hts⟩ (c_X10_put l D cI cS s.heap.size r0 30 (ro 0) (nI k) (nI x) (by first | assumption | omega)) ⟨va_cnB 3 hts gX7_addEvent_X10_put_n55 rfl rfl rfl (hKK.2 _ (List.mem_of_getElem? (i := 23) rfl)) (hts (.initialized RX10) (by decide +kernel)) (by decide +kernel) ⟨Nat.le_of_ble_eq_true rfl, Nat.le_of_ble_eq_true rfl⟩, hts (.static yX10_put) (by decide +kernel), trivial⟩ (ft_preRW hP hD hKK [1] rfl rfl rfl) rfl rfl hl.1 rfl (lv_room (Nat.le_of_ble_eq_true rfl)) dX7_addEvent_44 ⟨Nat.le_of_ble_eq_true rfl, Nat.le_of_ble_eq_true rfl⟩) hP hD hS hA [1] [0, 2, 3, 4, 5, 6, 7, 8, 9] [0, 9, 1, 2, 3, 4, 5, 6, 7, 8] rfl rfl (by decide) (by decide) (by decide) rfl rfl (fun H locs hP hD hS => ?_)
    rw [ftPut_N (k := k) (by omega) (by omega)] at hP hD
    have hP : va_P D vwCl [(a0, .inr (7, [.ref r0, .ref r1, .ref r2, .ref r3, .ref r4, .ref r5, .ref r6, .ref r7, .int (nI k), .int tl])), (r0, .inl (cI, 30, .inl (upd (ro 0) k (nI x)))), (r1, .inl (cI, 30, .inl (ro 1))), (r2, .inl (cI, 30, .inl (ro 2))), (r3, .inl (cI, 30, .inl (ro 3))), (r4, .inl (cI, 30, .inl (ro 4))), (r5, .inl (cI, 30, .inl (ro 5))), (r6, .inl (cI, 30, .inl (ro 6))), (r7, .inl (cI, 30, .inl (ro 7))), (va, .inl (cI, 460, .inl v))] H := hP
    have hD : va_D A [(a0, .inr (7, [.ref r0, .ref r1, .ref r2, .ref r3, .ref r4, .ref r5, .ref r6, .ref r7, .int (nI k), .int tl])), (r0, .inl (cI, 30, .inl (upd (ro 0) k (nI x)))), (r1, .inl (cI, 30, .inl (ro 1))), (r2, .inl (cI, 30, .inl (ro 2))), (r3, .inl (cI, 30, .inl (ro 3))), (r4, .inl (cI, 30, .inl (ro 4))), (r5, .inl (cI, 30, .inl (ro 5))), (r6, .inl (cI, 30, .inl (ro 6))), (r7, .inl (cI, 30, .inl (ro 7))), (va, .inl (cI, 460, .inl v))] := hD
    refine lv_aload_n hx hb dX7_addEvent_47 rfl (lv_at hl 2 rfl) ?_
    refine va_get (D := D) (ci := 7) (v := .ref r1) (C := RX7) (T := TX7) (N := 10) hx hb hts (by decide +kernel) hown hK hP 0 rfl rfl 1 (by decide) (hts (.fieldLink RX7 15 "FiberTrace$Reading" "ends" "[I") (by decide +kernel)) (fun _ h9 => h9) rfl dX7_addEvent_48 ?_
    refine lv_aload_n hx hb dX7_addEvent_51 rfl (lv_at hl 2 rfl) ?_
    refine va_get (D := D) (ci := 7) (v := .int (nI k)) (C := RX7) (T := TX7) (N := 10) hx hb hts (by decide +kernel) hown hK hP 0 rfl rfl 8 (by decide) (hts (.fieldLink RX7 36 "FiberTrace$Reading" "size" "I") (by decide +kernel)) (fun _ h9 => h9) rfl dX7_addEvent_52 ?_
    refine lv_iload_n hx hb dX7_addEvent_55 rfl (lv_at hl 5 rfl) ?_
    refine ft_cv (wc := [(r1, .inl (cI, 30, .inl (ro 1)))]) (wr := [(a0, .inr (7, [.ref r0, .ref r1, .ref r2, .ref r3, .ref r4, .ref r5, .ref r6, .ref r7, .int (nI k), .int tl])), (r0, .inl (cI, 30, .inl (upd (ro 0) k (nI x)))), (r2, .inl (cI, 30, .inl (ro 2))), (r3, .inl (cI, 30, .inl (ro 3))), (r4, .inl (cI, 30, .inl (ro 4))), (r5, .inl (cI, 30, .inl (ro 5))), (r6, .inl (cI, 30, .inl (ro 6))), (r7, .inl (cI, 30, .inl (ro 7))), (va, .inl (cI, 460, .inl v))]) (w1 := [(r1, .inl (cI, 30, .inl (ftPut 30 (ro 1) (nI k) (nI y))))]) (ws1 := [(a0, .inr (7, [.ref r0, .ref r1, .ref r2, .ref r3, .ref r4, .ref r5, .ref r6, .ref r7, .int (nI k), .int tl])), (r0, .inl (cI, 30, .inl (upd (ro 0) k (nI x)))), (r1, .inl (cI, 30, .inl (ftPut 30 (ro 1) (nI k) (nI y)))), (r2, .inl (cI, 30, .inl (ro 2))), (r3, .inl (cI, 30, .inl (ro 3))), (r4, .inl (cI, 30, .inl (ro 4))), (r5, .inl (cI, 30, .inl (ro 5))), (r6, .inl (cI, 30, .inl (ro 6))), (r7, .inl (cI, 30, .inl (ro 7))), (va, .inl (cI, 460, .inl v))]) (va_runSN (As := [.ref r1, .int (nI k), .int (nI y)]) (rest := []) ⟨hx, hb, hml, hown, hts⟩ (c_X10_put l D cI cS H.size r1 30 (ro 1) (nI k) (nI y) (by first | assumption | omega)) ⟨va_cnB 3 hts gX7_addEvent_X10_put_n55 rfl rfl rfl (hKK.2 _ (List.mem_of_getElem? (i := 23) rfl)) (hts (.initialized RX10) (by decide +kernel)) (by decide +kernel) ⟨Nat.le_of_ble_eq_true rfl, Nat.le_of_ble_eq_true rfl⟩, hts (.static yX10_put) (by decide +kernel), trivial⟩ (ft_preRW hP hD hKK [2] rfl rfl rfl) rfl rfl hl.1 rfl (lv_room (Nat.le_of_ble_eq_true rfl)) dX7_addEvent_56 ⟨Nat.le_of_ble_eq_true rfl, Nat.le_of_ble_eq_true rfl⟩) hP hD hS hA [2] [0, 1, 3, 4, 5, 6, 7, 8, 9] [0, 1, 9, 2, 3, 4, 5, 6, 7, 8] rfl rfl (by decide) (by decide) (by decide) rfl rfl (fun H locs hP hD hS => ?_)
    rw [ftPut_N (k := k) (by omega) (by omega)] at hP hD
    have hP : va_P D vwCl [(a0, .inr (7, [.ref r0, .ref r1, .ref r2, .ref r3, .ref r4, .ref r5, .ref r6, .ref r7, .int (nI k), .int tl])), (r0, .inl (cI, 30, .inl (upd (ro 0) k (nI x)))), (r1, .inl (cI, 30, .inl (upd (ro 1) k (nI y)))), (r2, .inl (cI, 30, .inl (ro 2))), (r3, .inl (cI, 30, .inl (ro 3))), (r4, .inl (cI, 30, .inl (ro 4))), (r5, .inl (cI, 30, .inl (ro 5))), (r6, .inl (cI, 30, .inl (ro 6))), (r7, .inl (cI, 30, .inl (ro 7))), (va, .inl (cI, 460, .inl v))] H := hP
    have hD : va_D A [(a0, .inr (7, [.ref r0, .ref r1, .ref r2, .ref r3, .ref r4, .ref r5, .ref r6, .ref r7, .int (nI k), .int tl])), (r0, .inl (cI, 30, .inl (upd (ro 0) k (nI x)))), (r1, .inl (cI, 30, .inl (upd (ro 1) k (nI y)))), (r2, .inl (cI, 30, .inl (ro 2))), (r3, .inl (cI, 30, .inl (ro 3))), (r4, .inl (cI, 30, .inl (ro 4))), (r5, .inl (cI, 30, .inl (ro 5))), (r6, .inl (cI, 30, .inl (ro 6))), (r7, .inl (cI, 30, .inl (ro 7))), (va, .inl (cI, 460, .inl v))] := hD
    refine lv_aload_n hx hb dX7_addEvent_59 rfl (lv_at hl 2 rfl) ?_
    refine va_get (D := D) (ci := 7) (v := .ref r2) (C := RX7) (T := TX7) (N := 10) hx hb hts (by decide +kernel) hown hK hP 0 rfl rfl 2 (by decide) (hts (.fieldLink RX7 18 "FiberTrace$Reading" "losses" "[I") (by decide +kernel)) (fun _ h9 => h9) rfl dX7_addEvent_60 ?_
    refine lv_aload_n hx hb dX7_addEvent_63 rfl (lv_at hl 2 rfl) ?_
    refine va_get (D := D) (ci := 7) (v := .int (nI k)) (C := RX7) (T := TX7) (N := 10) hx hb hts (by decide +kernel) hown hK hP 0 rfl rfl 8 (by decide) (hts (.fieldLink RX7 36 "FiberTrace$Reading" "size" "I") (by decide +kernel)) (fun _ h9 => h9) rfl dX7_addEvent_64 ?_
    refine lv_iload hx hb dX7_addEvent_67 (lv_at hl 1 rfl) ?_
    refine lv_aload_n hx hb dX7_addEvent_69 rfl (lv_at hl 3 rfl) ?_
    refine lv_iload_n hx hb dX7_addEvent_70 rfl (lv_at hl 5 rfl) ?_
    refine ft_csi (r := ftAt 460 v (nI y)) (va_runSN (As := [.ref va, .int (nI y)]) (rest := [.int (v (x - 1)), .int (nI k), .ref r2]) ⟨hx, hb, hml, hown, hts⟩ (c_X10_at l D cI cS va 460 v (nI y) (by first | assumption | omega)) ⟨va_cnB 2 hts gX7_addEvent_X10_at_n40 rfl rfl rfl (hKK.2 _ (List.mem_of_getElem? (i := 22) rfl)) (hts (.initialized RX10) (by decide +kernel)) (by decide +kernel) ⟨Nat.le_of_ble_eq_true rfl, Nat.le_of_ble_eq_true rfl⟩, hts (.static yX10_at) (by decide +kernel), trivial⟩ (ft_preRO hP hKK [9] rfl) rfl rfl hl.1 rfl (lv_room (Nat.le_of_ble_eq_true rfl)) dX7_addEvent_71 ⟨Nat.le_of_ble_eq_true rfl, Nat.le_of_ble_eq_true rfl⟩) ?_
    refine ft_top (y := v y) (ftAt_N (by omega) (by omega)) ?_
    refine lv_isub hx hb dX7_addEvent_74 ?_
    refine ft_cv (wc := [(r2, .inl (cI, 30, .inl (ro 2)))]) (wr := [(a0, .inr (7, [.ref r0, .ref r1, .ref r2, .ref r3, .ref r4, .ref r5, .ref r6, .ref r7, .int (nI k), .int tl])), (r0, .inl (cI, 30, .inl (upd (ro 0) k (nI x)))), (r1, .inl (cI, 30, .inl (upd (ro 1) k (nI y)))), (r3, .inl (cI, 30, .inl (ro 3))), (r4, .inl (cI, 30, .inl (ro 4))), (r5, .inl (cI, 30, .inl (ro 5))), (r6, .inl (cI, 30, .inl (ro 6))), (r7, .inl (cI, 30, .inl (ro 7))), (va, .inl (cI, 460, .inl v))]) (w1 := [(r2, .inl (cI, 30, .inl (ftPut 30 (ro 2) (nI k) ((v (x - 1)) - (v y)))))]) (ws1 := [(a0, .inr (7, [.ref r0, .ref r1, .ref r2, .ref r3, .ref r4, .ref r5, .ref r6, .ref r7, .int (nI k), .int tl])), (r0, .inl (cI, 30, .inl (upd (ro 0) k (nI x)))), (r1, .inl (cI, 30, .inl (upd (ro 1) k (nI y)))), (r2, .inl (cI, 30, .inl (ftPut 30 (ro 2) (nI k) ((v (x - 1)) - (v y))))), (r3, .inl (cI, 30, .inl (ro 3))), (r4, .inl (cI, 30, .inl (ro 4))), (r5, .inl (cI, 30, .inl (ro 5))), (r6, .inl (cI, 30, .inl (ro 6))), (r7, .inl (cI, 30, .inl (ro 7))), (va, .inl (cI, 460, .inl v))]) (va_runSN (As := [.ref r2, .int (nI k), .int ((v (x - 1)) - (v y))]) (rest := []) ⟨hx, hb, hml, hown, hts⟩ (c_X10_put l D cI cS H.size r2 30 (ro 2) (nI k) ((v (x - 1)) - (v y)) (by first | assumption | omega)) ⟨va_cnB 3 hts gX7_addEvent_X10_put_n55 rfl rfl rfl (hKK.2 _ (List.mem_of_getElem? (i := 23) rfl)) (hts (.initialized RX10) (by decide +kernel)) (by decide +kernel) ⟨Nat.le_of_ble_eq_true rfl, Nat.le_of_ble_eq_true rfl⟩, hts (.static yX10_put) (by decide +kernel), trivial⟩ (ft_preRW hP hD hKK [3] rfl rfl rfl) rfl rfl hl.1 rfl (lv_room (Nat.le_of_ble_eq_true rfl)) dX7_addEvent_75 ⟨Nat.le_of_ble_eq_true rfl, Nat.le_of_ble_eq_true rfl⟩) hP hD hS hA [3] [0, 1, 2, 4, 5, 6, 7, 8, 9] [0, 1, 2, 9, 3, 4, 5, 6, 7, 8] rfl rfl (by decide) (by decide) (by decide) rfl rfl (fun H locs hP hD hS => ?_)
    rw [ftPut_N (k := k) (by omega) (by omega)] at hP hD
    have hP : va_P D vwCl [(a0, .inr (7, [.ref r0, .ref r1, .ref r2, .ref r3, .ref r4, .ref r5, .ref r6, .ref r7, .int (nI k), .int tl])), (r0, .inl (cI, 30, .inl (upd (ro 0) k (nI x)))), (r1, .inl (cI, 30, .inl (upd (ro 1) k (nI y)))), (r2, .inl (cI, 30, .inl (upd (ro 2) k ((v (x - 1)) - (v y))))), (r3, .inl (cI, 30, .inl (ro 3))), (r4, .inl (cI, 30, .inl (ro 4))), (r5, .inl (cI, 30, .inl (ro 5))), (r6, .inl (cI, 30, .inl (ro 6))), (r7, .inl (cI, 30, .inl (ro 7))), (va, .inl (cI, 460, .inl v))] H := hP
    have hD : va_D A [(a0, .inr (7, [.ref r0, .ref r1, .ref r2, .ref r3, .ref r4, .ref r5, .ref r6, .ref r7, .int (nI k), .int tl])), (r0, .inl (cI, 30, .inl (upd (ro 0) k (nI x)))), (r1, .inl (cI, 30, .inl (upd (ro 1) k (nI y)))), (r2, .inl (cI, 30, .inl (upd (ro 2) k ((v (x - 1)) - (v y))))), (r3, .inl (cI, 30, .inl (ro 3))), (r4, .inl (cI, 30, .inl (ro 4))), (r5, .inl (cI, 30, .inl (ro 5))), (r6, .inl (cI, 30, .inl (ro 6))), (r7, .inl (cI, 30, .inl (ro 7))), (va, .inl (cI, 460, .inl v))] := hD
    refine lv_aload_n hx hb dX7_addEvent_78 rfl (lv_at hl 2 rfl) ?_
    refine va_get (D := D) (ci := 7) (v := .ref r3) (C := RX7) (T := TX7) (N := 10) hx hb hts (by decide +kernel) hown hK hP 0 rfl rfl 3 (by decide) (hts (.fieldLink RX7 21 "FiberTrace$Reading" "heights" "[I") (by decide +kernel)) (fun _ h9 => h9) rfl dX7_addEvent_79 ?_
    refine lv_aload_n hx hb dX7_addEvent_82 rfl (lv_at hl 2 rfl) ?_
    refine va_get (D := D) (ci := 7) (v := .int (nI k)) (C := RX7) (T := TX7) (N := 10) hx hb hts (by decide +kernel) hown hK hP 0 rfl rfl 8 (by decide) (hts (.fieldLink RX7 36 "FiberTrace$Reading" "size" "I") (by decide +kernel)) (fun _ h9 => h9) rfl dX7_addEvent_83 ?_
    refine lv_iload hx hb dX7_addEvent_86 (lv_at hl 6 rfl) ?_
    refine lv_if_eq (tgt := 103) hx hb dX7_addEvent_88 (by decide) (fun c88 => ?_) (fun c88 => ?_)
    · refine lv_iconst (v := 0) hx hb dX7_addEvent_103 (by decide) ?_
      refine ft_cv (wc := [(r3, .inl (cI, 30, .inl (ro 3)))]) (wr := [(a0, .inr (7, [.ref r0, .ref r1, .ref r2, .ref r3, .ref r4, .ref r5, .ref r6, .ref r7, .int (nI k), .int tl])), (r0, .inl (cI, 30, .inl (upd (ro 0) k (nI x)))), (r1, .inl (cI, 30, .inl (upd (ro 1) k (nI y)))), (r2, .inl (cI, 30, .inl (upd (ro 2) k ((v (x - 1)) - (v y))))), (r4, .inl (cI, 30, .inl (ro 4))), (r5, .inl (cI, 30, .inl (ro 5))), (r6, .inl (cI, 30, .inl (ro 6))), (r7, .inl (cI, 30, .inl (ro 7))), (va, .inl (cI, 460, .inl v))]) (w1 := [(r3, .inl (cI, 30, .inl (ftPut 30 (ro 3) (nI k) 0)))]) (ws1 := [(a0, .inr (7, [.ref r0, .ref r1, .ref r2, .ref r3, .ref r4, .ref r5, .ref r6, .ref r7, .int (nI k), .int tl])), (r0, .inl (cI, 30, .inl (upd (ro 0) k (nI x)))), (r1, .inl (cI, 30, .inl (upd (ro 1) k (nI y)))), (r2, .inl (cI, 30, .inl (upd (ro 2) k ((v (x - 1)) - (v y))))), (r3, .inl (cI, 30, .inl (ftPut 30 (ro 3) (nI k) 0))), (r4, .inl (cI, 30, .inl (ro 4))), (r5, .inl (cI, 30, .inl (ro 5))), (r6, .inl (cI, 30, .inl (ro 6))), (r7, .inl (cI, 30, .inl (ro 7))), (va, .inl (cI, 460, .inl v))]) (va_runSN (As := [.ref r3, .int (nI k), .int 0]) (rest := []) ⟨hx, hb, hml, hown, hts⟩ (c_X10_put l D cI cS H.size r3 30 (ro 3) (nI k) 0 (by first | assumption | omega)) ⟨va_cnB 3 hts gX7_addEvent_X10_put_n55 rfl rfl rfl (hKK.2 _ (List.mem_of_getElem? (i := 23) rfl)) (hts (.initialized RX10) (by decide +kernel)) (by decide +kernel) ⟨Nat.le_of_ble_eq_true rfl, Nat.le_of_ble_eq_true rfl⟩, hts (.static yX10_put) (by decide +kernel), trivial⟩ (ft_preRW hP hD hKK [4] rfl rfl rfl) rfl rfl hl.1 rfl (lv_room (Nat.le_of_ble_eq_true rfl)) dX7_addEvent_104 ⟨Nat.le_of_ble_eq_true rfl, Nat.le_of_ble_eq_true rfl⟩) hP hD hS hA [4] [0, 1, 2, 3, 5, 6, 7, 8, 9] [0, 1, 2, 3, 9, 4, 5, 6, 7, 8] rfl rfl (by decide) (by decide) (by decide) rfl rfl (fun H locs hP hD hS => ?_)
      rw [ftPut_N (k := k) (by omega) (by omega)] at hP hD
      have hP : va_P D vwCl [(a0, .inr (7, [.ref r0, .ref r1, .ref r2, .ref r3, .ref r4, .ref r5, .ref r6, .ref r7, .int (nI k), .int tl])), (r0, .inl (cI, 30, .inl (upd (ro 0) k (nI x)))), (r1, .inl (cI, 30, .inl (upd (ro 1) k (nI y)))), (r2, .inl (cI, 30, .inl (upd (ro 2) k ((v (x - 1)) - (v y))))), (r3, .inl (cI, 30, .inl (upd (ro 3) k 0))), (r4, .inl (cI, 30, .inl (ro 4))), (r5, .inl (cI, 30, .inl (ro 5))), (r6, .inl (cI, 30, .inl (ro 6))), (r7, .inl (cI, 30, .inl (ro 7))), (va, .inl (cI, 460, .inl v))] H := hP
      have hD : va_D A [(a0, .inr (7, [.ref r0, .ref r1, .ref r2, .ref r3, .ref r4, .ref r5, .ref r6, .ref r7, .int (nI k), .int tl])), (r0, .inl (cI, 30, .inl (upd (ro 0) k (nI x)))), (r1, .inl (cI, 30, .inl (upd (ro 1) k (nI y)))), (r2, .inl (cI, 30, .inl (upd (ro 2) k ((v (x - 1)) - (v y))))), (r3, .inl (cI, 30, .inl (upd (ro 3) k 0))), (r4, .inl (cI, 30, .inl (ro 4))), (r5, .inl (cI, 30, .inl (ro 5))), (r6, .inl (cI, 30, .inl (ro 6))), (r7, .inl (cI, 30, .inl (ro 7))), (va, .inl (cI, 460, .inl v))] := hD
      refine lv_aload_n hx hb dX7_addEvent_107 rfl (lv_at hl 2 rfl) ?_
      refine va_get (D := D) (ci := 7) (v := .ref r4) (C := RX7) (T := TX7) (N := 10) hx hb hts (by decide +kernel) hown hK hP 0 rfl rfl 4 (by decide) (hts (.fieldLink RX7 24 "FiberTrace$Reading" "kinds" "[I") (by decide +kernel)) (fun _ h9 => h9) rfl dX7_addEvent_108 ?_
      refine lv_aload_n hx hb dX7_addEvent_111 rfl (lv_at hl 2 rfl) ?_
      refine va_get (D := D) (ci := 7) (v := .int (nI k)) (C := RX7) (T := TX7) (N := 10) hx hb hts (by decide +kernel) hown hK hP 0 rfl rfl 8 (by decide) (hts (.fieldLink RX7 36 "FiberTrace$Reading" "size" "I") (by decide +kernel)) (fun _ h9 => h9) rfl dX7_addEvent_112 ?_
      refine lv_iload hx hb dX7_addEvent_115 (lv_at hl 6 rfl) ?_
      refine lv_if_eq (tgt := 124) hx hb dX7_addEvent_117 (by decide) (fun c117 => ?_) (fun c117 => ?_)
      · refine lv_iconst (v := 0) hx hb dX7_addEvent_124 (by decide) ?_
        refine ft_cv (wc := [(r4, .inl (cI, 30, .inl (ro 4)))]) (wr := [(a0, .inr (7, [.ref r0, .ref r1, .ref r2, .ref r3, .ref r4, .ref r5, .ref r6, .ref r7, .int (nI k), .int tl])), (r0, .inl (cI, 30, .inl (upd (ro 0) k (nI x)))), (r1, .inl (cI, 30, .inl (upd (ro 1) k (nI y)))), (r2, .inl (cI, 30, .inl (upd (ro 2) k ((v (x - 1)) - (v y))))), (r3, .inl (cI, 30, .inl (upd (ro 3) k 0))), (r5, .inl (cI, 30, .inl (ro 5))), (r6, .inl (cI, 30, .inl (ro 6))), (r7, .inl (cI, 30, .inl (ro 7))), (va, .inl (cI, 460, .inl v))]) (w1 := [(r4, .inl (cI, 30, .inl (ftPut 30 (ro 4) (nI k) 0)))]) (ws1 := [(a0, .inr (7, [.ref r0, .ref r1, .ref r2, .ref r3, .ref r4, .ref r5, .ref r6, .ref r7, .int (nI k), .int tl])), (r0, .inl (cI, 30, .inl (upd (ro 0) k (nI x)))), (r1, .inl (cI, 30, .inl (upd (ro 1) k (nI y)))), (r2, .inl (cI, 30, .inl (upd (ro 2) k ((v (x - 1)) - (v y))))), (r3, .inl (cI, 30, .inl (upd (ro 3) k 0))), (r4, .inl (cI, 30, .inl (ftPut 30 (ro 4) (nI k) 0))), (r5, .inl (cI, 30, .inl (ro 5))), (r6, .inl (cI, 30, .inl (ro 6))), (r7, .inl (cI, 30, .inl (ro 7))), (va, .inl (cI, 460, .inl v))]) (va_runSN (As := [.ref r4, .int (nI k), .int 0]) (rest := []) ⟨hx, hb, hml, hown, hts⟩ (c_X10_put l D cI cS H.size r4 30 (ro 4) (nI k) 0 (by first | assumption | omega)) ⟨va_cnB 3 hts gX7_addEvent_X10_put_n55 rfl rfl rfl (hKK.2 _ (List.mem_of_getElem? (i := 23) rfl)) (hts (.initialized RX10) (by decide +kernel)) (by decide +kernel) ⟨Nat.le_of_ble_eq_true rfl, Nat.le_of_ble_eq_true rfl⟩, hts (.static yX10_put) (by decide +kernel), trivial⟩ (ft_preRW hP hD hKK [5] rfl rfl rfl) rfl rfl hl.1 rfl (lv_room (Nat.le_of_ble_eq_true rfl)) dX7_addEvent_125 ⟨Nat.le_of_ble_eq_true rfl, Nat.le_of_ble_eq_true rfl⟩) hP hD hS hA [5] [0, 1, 2, 3, 4, 6, 7, 8, 9] [0, 1, 2, 3, 4, 9, 5, 6, 7, 8] rfl rfl (by decide) (by decide) (by decide) rfl rfl (fun H locs hP hD hS => ?_)
        rw [ftPut_N (k := k) (by omega) (by omega)] at hP hD
        have hP : va_P D vwCl [(a0, .inr (7, [.ref r0, .ref r1, .ref r2, .ref r3, .ref r4, .ref r5, .ref r6, .ref r7, .int (nI k), .int tl])), (r0, .inl (cI, 30, .inl (upd (ro 0) k (nI x)))), (r1, .inl (cI, 30, .inl (upd (ro 1) k (nI y)))), (r2, .inl (cI, 30, .inl (upd (ro 2) k ((v (x - 1)) - (v y))))), (r3, .inl (cI, 30, .inl (upd (ro 3) k 0))), (r4, .inl (cI, 30, .inl (upd (ro 4) k 0))), (r5, .inl (cI, 30, .inl (ro 5))), (r6, .inl (cI, 30, .inl (ro 6))), (r7, .inl (cI, 30, .inl (ro 7))), (va, .inl (cI, 460, .inl v))] H := hP
        have hD : va_D A [(a0, .inr (7, [.ref r0, .ref r1, .ref r2, .ref r3, .ref r4, .ref r5, .ref r6, .ref r7, .int (nI k), .int tl])), (r0, .inl (cI, 30, .inl (upd (ro 0) k (nI x)))), (r1, .inl (cI, 30, .inl (upd (ro 1) k (nI y)))), (r2, .inl (cI, 30, .inl (upd (ro 2) k ((v (x - 1)) - (v y))))), (r3, .inl (cI, 30, .inl (upd (ro 3) k 0))), (r4, .inl (cI, 30, .inl (upd (ro 4) k 0))), (r5, .inl (cI, 30, .inl (ro 5))), (r6, .inl (cI, 30, .inl (ro 6))), (r7, .inl (cI, 30, .inl (ro 7))), (va, .inl (cI, 460, .inl v))] := hD
        refine lv_aload_n hx hb dX7_addEvent_128 rfl (lv_at hl 2 rfl) ?_
        refine va_get (D := D) (ci := 7) (v := .ref r5) (C := RX7) (T := TX7) (N := 10) hx hb hts (by decide +kernel) hown hK hP 0 rfl rfl 5 (by decide) (hts (.fieldLink RX7 27 "FiberTrace$Reading" "sectionLosses" "[I") (by decide +kernel)) (fun _ h9 => h9) rfl dX7_addEvent_129 ?_
        refine lv_aload_n hx hb dX7_addEvent_132 rfl (lv_at hl 2 rfl) ?_
        refine va_get (D := D) (ci := 7) (v := .int (nI k)) (C := RX7) (T := TX7) (N := 10) hx hb hts (by decide +kernel) hown hK hP 0 rfl rfl 8 (by decide) (hts (.fieldLink RX7 36 "FiberTrace$Reading" "size" "I") (by decide +kernel)) (fun _ h9 => h9) rfl dX7_addEvent_133 ?_
        refine lv_aload_n hx hb dX7_addEvent_136 rfl (lv_at hl 3 rfl) ?_
        refine lv_iload hx hb dX7_addEvent_137 (lv_at hl 0 rfl) ?_
        refine ft_csi (r := ftAt 460 v (nI y9)) (va_runSN (As := [.ref va, .int (nI y9)]) (rest := [.int (nI k), .ref r5]) ⟨hx, hb, hml, hown, hts⟩ (c_X10_at l D cI cS va 460 v (nI y9) (by first | assumption | omega)) ⟨va_cnB 2 hts gX7_addEvent_X10_at_n40 rfl rfl rfl (hKK.2 _ (List.mem_of_getElem? (i := 22) rfl)) (hts (.initialized RX10) (by decide +kernel)) (by decide +kernel) ⟨Nat.le_of_ble_eq_true rfl, Nat.le_of_ble_eq_true rfl⟩, hts (.static yX10_at) (by decide +kernel), trivial⟩ (ft_preRO hP hKK [9] rfl) rfl rfl hl.1 rfl (lv_room (Nat.le_of_ble_eq_true rfl)) dX7_addEvent_139 ⟨Nat.le_of_ble_eq_true rfl, Nat.le_of_ble_eq_true rfl⟩) ?_
        refine ft_top (y := v y9) (ftAt_N (by omega) (by omega)) ?_
        refine lv_iload hx hb dX7_addEvent_142 (lv_at hl 1 rfl) ?_
        refine lv_isub hx hb dX7_addEvent_144 ?_
        refine ft_cv (wc := [(r5, .inl (cI, 30, .inl (ro 5)))]) (wr := [(a0, .inr (7, [.ref r0, .ref r1, .ref r2, .ref r3, .ref r4, .ref r5, .ref r6, .ref r7, .int (nI k), .int tl])), (r0, .inl (cI, 30, .inl (upd (ro 0) k (nI x)))), (r1, .inl (cI, 30, .inl (upd (ro 1) k (nI y)))), (r2, .inl (cI, 30, .inl (upd (ro 2) k ((v (x - 1)) - (v y))))), (r3, .inl (cI, 30, .inl (upd (ro 3) k 0))), (r4, .inl (cI, 30, .inl (upd (ro 4) k 0))), (r6, .inl (cI, 30, .inl (ro 6))), (r7, .inl (cI, 30, .inl (ro 7))), (va, .inl (cI, 460, .inl v))]) (w1 := [(r5, .inl (cI, 30, .inl (ftPut 30 (ro 5) (nI k) ((v y9) - (v (x - 1))))))]) (ws1 := [(a0, .inr (7, [.ref r0, .ref r1, .ref r2, .ref r3, .ref r4, .ref r5, .ref r6, .ref r7, .int (nI k), .int tl])), (r0, .inl (cI, 30, .inl (upd (ro 0) k (nI x)))), (r1, .inl (cI, 30, .inl (upd (ro 1) k (nI y)))), (r2, .inl (cI, 30, .inl (upd (ro 2) k ((v (x - 1)) - (v y))))), (r3, .inl (cI, 30, .inl (upd (ro 3) k 0))), (r4, .inl (cI, 30, .inl (upd (ro 4) k 0))), (r5, .inl (cI, 30, .inl (ftPut 30 (ro 5) (nI k) ((v y9) - (v (x - 1)))))), (r6, .inl (cI, 30, .inl (ro 6))), (r7, .inl (cI, 30, .inl (ro 7))), (va, .inl (cI, 460, .inl v))]) (va_runSN (As := [.ref r5, .int (nI k), .int ((v y9) - (v (x - 1)))]) (rest := []) ⟨hx, hb, hml, hown, hts⟩ (c_X10_put l D cI cS H.size r5 30 (ro 5) (nI k) ((v y9) - (v (x - 1))) (by first | assumption | omega)) ⟨va_cnB 3 hts gX7_addEvent_X10_put_n55 rfl rfl rfl (hKK.2 _ (List.mem_of_getElem? (i := 23) rfl)) (hts (.initialized RX10) (by decide +kernel)) (by decide +kernel) ⟨Nat.le_of_ble_eq_true rfl, Nat.le_of_ble_eq_true rfl⟩, hts (.static yX10_put) (by decide +kernel), trivial⟩ (ft_preRW hP hD hKK [6] rfl rfl rfl) rfl rfl hl.1 rfl (lv_room (Nat.le_of_ble_eq_true rfl)) dX7_addEvent_145 ⟨Nat.le_of_ble_eq_true rfl, Nat.le_of_ble_eq_true rfl⟩) hP hD hS hA [6] [0, 1, 2, 3, 4, 5, 7, 8, 9] [0, 1, 2, 3, 4, 5, 9, 6, 7, 8] rfl rfl (by decide) (by decide) (by decide) rfl rfl (fun H locs hP hD hS => ?_)
        rw [ftPut_N (k := k) (by omega) (by omega)] at hP hD
        have hP : va_P D vwCl [(a0, .inr (7, [.ref r0, .ref r1, .ref r2, .ref r3, .ref r4, .ref r5, .ref r6, .ref r7, .int (nI k), .int tl])), (r0, .inl (cI, 30, .inl (upd (ro 0) k (nI x)))), (r1, .inl (cI, 30, .inl (upd (ro 1) k (nI y)))), (r2, .inl (cI, 30, .inl (upd (ro 2) k ((v (x - 1)) - (v y))))), (r3, .inl (cI, 30, .inl (upd (ro 3) k 0))), (r4, .inl (cI, 30, .inl (upd (ro 4) k 0))), (r5, .inl (cI, 30, .inl (upd (ro 5) k ((v y9) - (v (x - 1)))))), (r6, .inl (cI, 30, .inl (ro 6))), (r7, .inl (cI, 30, .inl (ro 7))), (va, .inl (cI, 460, .inl v))] H := hP
        have hD : va_D A [(a0, .inr (7, [.ref r0, .ref r1, .ref r2, .ref r3, .ref r4, .ref r5, .ref r6, .ref r7, .int (nI k), .int tl])), (r0, .inl (cI, 30, .inl (upd (ro 0) k (nI x)))), (r1, .inl (cI, 30, .inl (upd (ro 1) k (nI y)))), (r2, .inl (cI, 30, .inl (upd (ro 2) k ((v (x - 1)) - (v y))))), (r3, .inl (cI, 30, .inl (upd (ro 3) k 0))), (r4, .inl (cI, 30, .inl (upd (ro 4) k 0))), (r5, .inl (cI, 30, .inl (upd (ro 5) k ((v y9) - (v (x - 1)))))), (r6, .inl (cI, 30, .inl (ro 6))), (r7, .inl (cI, 30, .inl (ro 7))), (va, .inl (cI, 460, .inl v))] := hD
        refine lv_aload_n hx hb dX7_addEvent_148 rfl (lv_at hl 2 rfl) ?_
        refine va_get (D := D) (ci := 7) (v := .ref r6) (C := RX7) (T := TX7) (N := 10) hx hb hts (by decide +kernel) hown hK hP 0 rfl rfl 6 (by decide) (hts (.fieldLink RX7 30 "FiberTrace$Reading" "firstMakers" "[I") (by decide +kernel)) (fun _ h9 => h9) rfl dX7_addEvent_149 ?_
        refine lv_aload_n hx hb dX7_addEvent_152 rfl (lv_at hl 2 rfl) ?_
        refine va_get (D := D) (ci := 7) (v := .int (nI k)) (C := RX7) (T := TX7) (N := 10) hx hb hts (by decide +kernel) hown hK hP 0 rfl rfl 8 (by decide) (hts (.fieldLink RX7 36 "FiberTrace$Reading" "size" "I") (by decide +kernel)) (fun _ h9 => h9) rfl dX7_addEvent_153 ?_
        refine lv_iconst (v := (-1)) hx hb dX7_addEvent_156 (by decide) ?_
        refine ft_cv (wc := [(r6, .inl (cI, 30, .inl (ro 6)))]) (wr := [(a0, .inr (7, [.ref r0, .ref r1, .ref r2, .ref r3, .ref r4, .ref r5, .ref r6, .ref r7, .int (nI k), .int tl])), (r0, .inl (cI, 30, .inl (upd (ro 0) k (nI x)))), (r1, .inl (cI, 30, .inl (upd (ro 1) k (nI y)))), (r2, .inl (cI, 30, .inl (upd (ro 2) k ((v (x - 1)) - (v y))))), (r3, .inl (cI, 30, .inl (upd (ro 3) k 0))), (r4, .inl (cI, 30, .inl (upd (ro 4) k 0))), (r5, .inl (cI, 30, .inl (upd (ro 5) k ((v y9) - (v (x - 1)))))), (r7, .inl (cI, 30, .inl (ro 7))), (va, .inl (cI, 460, .inl v))]) (w1 := [(r6, .inl (cI, 30, .inl (ftPut 30 (ro 6) (nI k) (-1))))]) (ws1 := [(a0, .inr (7, [.ref r0, .ref r1, .ref r2, .ref r3, .ref r4, .ref r5, .ref r6, .ref r7, .int (nI k), .int tl])), (r0, .inl (cI, 30, .inl (upd (ro 0) k (nI x)))), (r1, .inl (cI, 30, .inl (upd (ro 1) k (nI y)))), (r2, .inl (cI, 30, .inl (upd (ro 2) k ((v (x - 1)) - (v y))))), (r3, .inl (cI, 30, .inl (upd (ro 3) k 0))), (r4, .inl (cI, 30, .inl (upd (ro 4) k 0))), (r5, .inl (cI, 30, .inl (upd (ro 5) k ((v y9) - (v (x - 1)))))), (r6, .inl (cI, 30, .inl (ftPut 30 (ro 6) (nI k) (-1)))), (r7, .inl (cI, 30, .inl (ro 7))), (va, .inl (cI, 460, .inl v))]) (va_runSN (As := [.ref r6, .int (nI k), .int (-1)]) (rest := []) ⟨hx, hb, hml, hown, hts⟩ (c_X10_put l D cI cS H.size r6 30 (ro 6) (nI k) (-1) (by first | assumption | omega)) ⟨va_cnB 3 hts gX7_addEvent_X10_put_n55 rfl rfl rfl (hKK.2 _ (List.mem_of_getElem? (i := 23) rfl)) (hts (.initialized RX10) (by decide +kernel)) (by decide +kernel) ⟨Nat.le_of_ble_eq_true rfl, Nat.le_of_ble_eq_true rfl⟩, hts (.static yX10_put) (by decide +kernel), trivial⟩ (ft_preRW hP hD hKK [7] rfl rfl rfl) rfl rfl hl.1 rfl (lv_room (Nat.le_of_ble_eq_true rfl)) dX7_addEvent_157 ⟨Nat.le_of_ble_eq_true rfl, Nat.le_of_ble_eq_true rfl⟩) hP hD hS hA [7] [0, 1, 2, 3, 4, 5, 6, 8, 9] [0, 1, 2, 3, 4, 5, 6, 9, 7, 8] rfl rfl (by decide) (by decide) (by decide) rfl rfl (fun H locs hP hD hS => ?_)
        rw [ftPut_N (k := k) (by omega) (by omega)] at hP hD
        have hP : va_P D vwCl [(a0, .inr (7, [.ref r0, .ref r1, .ref r2, .ref r3, .ref r4, .ref r5, .ref r6, .ref r7, .int (nI k), .int tl])), (r0, .inl (cI, 30, .inl (upd (ro 0) k (nI x)))), (r1, .inl (cI, 30, .inl (upd (ro 1) k (nI y)))), (r2, .inl (cI, 30, .inl (upd (ro 2) k ((v (x - 1)) - (v y))))), (r3, .inl (cI, 30, .inl (upd (ro 3) k 0))), (r4, .inl (cI, 30, .inl (upd (ro 4) k 0))), (r5, .inl (cI, 30, .inl (upd (ro 5) k ((v y9) - (v (x - 1)))))), (r6, .inl (cI, 30, .inl (upd (ro 6) k (-1)))), (r7, .inl (cI, 30, .inl (ro 7))), (va, .inl (cI, 460, .inl v))] H := hP
        have hD : va_D A [(a0, .inr (7, [.ref r0, .ref r1, .ref r2, .ref r3, .ref r4, .ref r5, .ref r6, .ref r7, .int (nI k), .int tl])), (r0, .inl (cI, 30, .inl (upd (ro 0) k (nI x)))), (r1, .inl (cI, 30, .inl (upd (ro 1) k (nI y)))), (r2, .inl (cI, 30, .inl (upd (ro 2) k ((v (x - 1)) - (v y))))), (r3, .inl (cI, 30, .inl (upd (ro 3) k 0))), (r4, .inl (cI, 30, .inl (upd (ro 4) k 0))), (r5, .inl (cI, 30, .inl (upd (ro 5) k ((v y9) - (v (x - 1)))))), (r6, .inl (cI, 30, .inl (upd (ro 6) k (-1)))), (r7, .inl (cI, 30, .inl (ro 7))), (va, .inl (cI, 460, .inl v))] := hD
        refine lv_aload_n hx hb dX7_addEvent_160 rfl (lv_at hl 2 rfl) ?_
        refine va_get (D := D) (ci := 7) (v := .ref r7) (C := RX7) (T := TX7) (N := 10) hx hb hts (by decide +kernel) hown hK hP 0 rfl rfl 7 (by decide) (hts (.fieldLink RX7 33 "FiberTrace$Reading" "secondMakers" "[I") (by decide +kernel)) (fun _ h9 => h9) rfl dX7_addEvent_161 ?_
        refine lv_aload_n hx hb dX7_addEvent_164 rfl (lv_at hl 2 rfl) ?_
        refine va_get (D := D) (ci := 7) (v := .int (nI k)) (C := RX7) (T := TX7) (N := 10) hx hb hts (by decide +kernel) hown hK hP 0 rfl rfl 8 (by decide) (hts (.fieldLink RX7 36 "FiberTrace$Reading" "size" "I") (by decide +kernel)) (fun _ h9 => h9) rfl dX7_addEvent_165 ?_
        refine lv_iconst (v := (-1)) hx hb dX7_addEvent_168 (by decide) ?_
        refine ft_cv (wc := [(r7, .inl (cI, 30, .inl (ro 7)))]) (wr := [(a0, .inr (7, [.ref r0, .ref r1, .ref r2, .ref r3, .ref r4, .ref r5, .ref r6, .ref r7, .int (nI k), .int tl])), (r0, .inl (cI, 30, .inl (upd (ro 0) k (nI x)))), (r1, .inl (cI, 30, .inl (upd (ro 1) k (nI y)))), (r2, .inl (cI, 30, .inl (upd (ro 2) k ((v (x - 1)) - (v y))))), (r3, .inl (cI, 30, .inl (upd (ro 3) k 0))), (r4, .inl (cI, 30, .inl (upd (ro 4) k 0))), (r5, .inl (cI, 30, .inl (upd (ro 5) k ((v y9) - (v (x - 1)))))), (r6, .inl (cI, 30, .inl (upd (ro 6) k (-1)))), (va, .inl (cI, 460, .inl v))]) (w1 := [(r7, .inl (cI, 30, .inl (ftPut 30 (ro 7) (nI k) (-1))))]) (ws1 := [(a0, .inr (7, [.ref r0, .ref r1, .ref r2, .ref r3, .ref r4, .ref r5, .ref r6, .ref r7, .int (nI k), .int tl])), (r0, .inl (cI, 30, .inl (upd (ro 0) k (nI x)))), (r1, .inl (cI, 30, .inl (upd (ro 1) k (nI y)))), (r2, .inl (cI, 30, .inl (upd (ro 2) k ((v (x - 1)) - (v y))))), (r3, .inl (cI, 30, .inl (upd (ro 3) k 0))), (r4, .inl (cI, 30, .inl (upd (ro 4) k 0))), (r5, .inl (cI, 30, .inl (upd (ro 5) k ((v y9) - (v (x - 1)))))), (r6, .inl (cI, 30, .inl (upd (ro 6) k (-1)))), (r7, .inl (cI, 30, .inl (ftPut 30 (ro 7) (nI k) (-1)))), (va, .inl (cI, 460, .inl v))]) (va_runSN (As := [.ref r7, .int (nI k), .int (-1)]) (rest := []) ⟨hx, hb, hml, hown, hts⟩ (c_X10_put l D cI cS H.size r7 30 (ro 7) (nI k) (-1) (by first | assumption | omega)) ⟨va_cnB 3 hts gX7_addEvent_X10_put_n55 rfl rfl rfl (hKK.2 _ (List.mem_of_getElem? (i := 23) rfl)) (hts (.initialized RX10) (by decide +kernel)) (by decide +kernel) ⟨Nat.le_of_ble_eq_true rfl, Nat.le_of_ble_eq_true rfl⟩, hts (.static yX10_put) (by decide +kernel), trivial⟩ (ft_preRW hP hD hKK [8] rfl rfl rfl) rfl rfl hl.1 rfl (lv_room (Nat.le_of_ble_eq_true rfl)) dX7_addEvent_169 ⟨Nat.le_of_ble_eq_true rfl, Nat.le_of_ble_eq_true rfl⟩) hP hD hS hA [8] [0, 1, 2, 3, 4, 5, 6, 7, 9] [0, 1, 2, 3, 4, 5, 6, 7, 9, 8] rfl rfl (by decide) (by decide) (by decide) rfl rfl (fun H locs hP hD hS => ?_)
        rw [ftPut_N (k := k) (by omega) (by omega)] at hP hD
        have hP : va_P D vwCl [(a0, .inr (7, [.ref r0, .ref r1, .ref r2, .ref r3, .ref r4, .ref r5, .ref r6, .ref r7, .int (nI k), .int tl])), (r0, .inl (cI, 30, .inl (upd (ro 0) k (nI x)))), (r1, .inl (cI, 30, .inl (upd (ro 1) k (nI y)))), (r2, .inl (cI, 30, .inl (upd (ro 2) k ((v (x - 1)) - (v y))))), (r3, .inl (cI, 30, .inl (upd (ro 3) k 0))), (r4, .inl (cI, 30, .inl (upd (ro 4) k 0))), (r5, .inl (cI, 30, .inl (upd (ro 5) k ((v y9) - (v (x - 1)))))), (r6, .inl (cI, 30, .inl (upd (ro 6) k (-1)))), (r7, .inl (cI, 30, .inl (upd (ro 7) k (-1)))), (va, .inl (cI, 460, .inl v))] H := hP
        have hD : va_D A [(a0, .inr (7, [.ref r0, .ref r1, .ref r2, .ref r3, .ref r4, .ref r5, .ref r6, .ref r7, .int (nI k), .int tl])), (r0, .inl (cI, 30, .inl (upd (ro 0) k (nI x)))), (r1, .inl (cI, 30, .inl (upd (ro 1) k (nI y)))), (r2, .inl (cI, 30, .inl (upd (ro 2) k ((v (x - 1)) - (v y))))), (r3, .inl (cI, 30, .inl (upd (ro 3) k 0))), (r4, .inl (cI, 30, .inl (upd (ro 4) k 0))), (r5, .inl (cI, 30, .inl (upd (ro 5) k ((v y9) - (v (x - 1)))))), (r6, .inl (cI, 30, .inl (upd (ro 6) k (-1)))), (r7, .inl (cI, 30, .inl (upd (ro 7) k (-1)))), (va, .inl (cI, 460, .inl v))] := hD
        refine lv_aload_n hx hb dX7_addEvent_172 rfl (lv_at hl 2 rfl) ?_
        refine lv_dup hx hb dX7_addEvent_173 rfl ?_
        refine va_get (D := D) (ci := 7) (v := .int (nI k)) (C := RX7) (T := TX7) (N := 10) hx hb hts (by decide +kernel) hown hK hP 0 rfl rfl 8 (by decide) (hts (.fieldLink RX7 36 "FiberTrace$Reading" "size" "I") (by decide +kernel)) (fun _ h9 => h9) rfl dX7_addEvent_174 ?_
        refine lv_iconst (v := 1) hx hb dX7_addEvent_177 (by decide) ?_
        refine lv_iadd hx hb dX7_addEvent_178 ?_
        refine ft_top (y := nI (k + 1)) (ft_addN k 1) ?_
        refine va_put (D := D) (ci := 7) (v := .int (nI (k + 1))) (ty := .int) (C := RX7) (T := TX7) (N := 10) hx hb hts (by decide +kernel) tyX7 tyX7_ok nmX7 hown hK hP hD hS 0 rfl rfl 8 (by decide) (hts (.fieldLink RX7 36 "FiberTrace$Reading" "size" "I") (by decide +kernel)) (fun _ h9 => h9) rfl (by decide +kernel) rfl rfl (Nat.le_of_ble_eq_true rfl) dX7_addEvent_179 (fun H locs hP hD hS => ?_)
        have hP : va_P D vwCl [(a0, .inr (7, [.ref r0, .ref r1, .ref r2, .ref r3, .ref r4, .ref r5, .ref r6, .ref r7, .int (nI (k + 1)), .int tl])), (r0, .inl (cI, 30, .inl (upd (ro 0) k (nI x)))), (r1, .inl (cI, 30, .inl (upd (ro 1) k (nI y)))), (r2, .inl (cI, 30, .inl (upd (ro 2) k ((v (x - 1)) - (v y))))), (r3, .inl (cI, 30, .inl (upd (ro 3) k 0))), (r4, .inl (cI, 30, .inl (upd (ro 4) k 0))), (r5, .inl (cI, 30, .inl (upd (ro 5) k ((v y9) - (v (x - 1)))))), (r6, .inl (cI, 30, .inl (upd (ro 6) k (-1)))), (r7, .inl (cI, 30, .inl (upd (ro 7) k (-1)))), (va, .inl (cI, 460, .inl v))] H := hP
        have hD : va_D A [(a0, .inr (7, [.ref r0, .ref r1, .ref r2, .ref r3, .ref r4, .ref r5, .ref r6, .ref r7, .int (nI (k + 1)), .int tl])), (r0, .inl (cI, 30, .inl (upd (ro 0) k (nI x)))), (r1, .inl (cI, 30, .inl (upd (ro 1) k (nI y)))), (r2, .inl (cI, 30, .inl (upd (ro 2) k ((v (x - 1)) - (v y))))), (r3, .inl (cI, 30, .inl (upd (ro 3) k 0))), (r4, .inl (cI, 30, .inl (upd (ro 4) k 0))), (r5, .inl (cI, 30, .inl (upd (ro 5) k ((v y9) - (v (x - 1)))))), (r6, .inl (cI, 30, .inl (upd (ro 6) k (-1)))), (r7, .inl (cI, 30, .inl (upd (ro 7) k (-1)))), (va, .inl (cI, 460, .inl v))] := hD
        have hw9 : ([(a0, .inr (7, [.ref r0, .ref r1, .ref r2, .ref r3, .ref r4, .ref r5, .ref r6, .ref r7, .int (nI (k + 1)), .int tl])), (r0, .inl (cI, 30, .inl (upd (ro 0) k (nI x)))), (r1, .inl (cI, 30, .inl (upd (ro 1) k (nI y)))), (r2, .inl (cI, 30, .inl (upd (ro 2) k ((v (x - 1)) - (v y))))), (r3, .inl (cI, 30, .inl (upd (ro 3) k 0))), (r4, .inl (cI, 30, .inl (upd (ro 4) k 0))), (r5, .inl (cI, 30, .inl (upd (ro 5) k ((v y9) - (v (x - 1)))))), (r6, .inl (cI, 30, .inl (upd (ro 6) k (-1)))), (r7, .inl (cI, 30, .inl (upd (ro 7) k (-1)))), (va, .inl (cI, 460, .inl v))] : va_W) = [(a0, .inr (7, [.ref r0, .ref r1, .ref r2, .ref r3, .ref r4, .ref r5, .ref r6, .ref r7, .int (nI (k + 1)), .int tl])), (r0, .inl (cI, 30, .inl (upd (ro 0) k (ftEvV v x y (ftSb ro k) rb 0)))), (r1, .inl (cI, 30, .inl (upd (ro 1) k (ftEvV v x y (ftSb ro k) rb 1)))), (r2, .inl (cI, 30, .inl (upd (ro 2) k (ftEvV v x y (ftSb ro k) rb 2)))), (r3, .inl (cI, 30, .inl (upd (ro 3) k (ftEvV v x y (ftSb ro k) rb 3)))), (r4, .inl (cI, 30, .inl (upd (ro 4) k (ftEvV v x y (ftSb ro k) rb 4)))), (r5, .inl (cI, 30, .inl (upd (ro 5) k (ftEvV v x y (ftSb ro k) rb 5)))), (r6, .inl (cI, 30, .inl (upd (ro 6) k (ftEvV v x y (ftSb ro k) rb 6)))), (r7, .inl (cI, 30, .inl (upd (ro 7) k (ftEvV v x y (ftSb ro k) rb 7)))), (va, .inl (cI, 460, .inl v))] := by first | (simp only [ftEvV, hsb9, if_pos c88]; done) | (simp only [ftEvV, hsb9, if_neg c88]; done)
        rw [hw9] at hP hD
        exact W.vret hx hb hr (fun t ht hW => ⟨⟨(), rfl, trivial, by rw [ht]; exact hP, by rw [hAe]; exact hD⟩, by rw [hAe]; exact hS.F ht⟩) hS.2.2 dX7_addEvent_182
      · exact absurd c88 c117
    · refine lv_aload_n hx hb dX7_addEvent_91 rfl (lv_at hl 3 rfl) ?_
      refine lv_iload_n hx hb dX7_addEvent_92 rfl (lv_at hl 4 rfl) ?_
      refine lv_iload_n hx hb dX7_addEvent_93 rfl (lv_at hl 5 rfl) ?_
      refine ft_csi (r := ftGr v x (y - x)) (va_runS (As := [.ref va, .int (nI x), .int (nI y)]) (rest := [.int (nI k), .ref r3]) ⟨hx, hb, hml, hown, hts⟩ (c_X7_greatestOf l D cI cS va v x y hxy hy) (va_cwS 3 hts gX7_addEvent_X7_greatestOf rfl rfl rfl (by decide +kernel) ⟨Nat.le_of_ble_eq_true rfl, Nat.le_of_ble_eq_true rfl⟩) (ft_preRO hP hKK [9] rfl) rfl rfl hl.1 rfl (lv_room (Nat.le_of_ble_eq_true rfl)) dX7_addEvent_94 ⟨Nat.le_of_ble_eq_true rfl, Nat.le_of_ble_eq_true rfl⟩) ?_
      refine lv_iload hx hb dX7_addEvent_97 (lv_at hl 1 rfl) ?_
      refine lv_isub hx hb dX7_addEvent_99 ?_
      refine lv_goto (tgt := 104) hx hb dX7_addEvent_100 (by decide) ?_
      refine ft_cv (wc := [(r3, .inl (cI, 30, .inl (ro 3)))]) (wr := [(a0, .inr (7, [.ref r0, .ref r1, .ref r2, .ref r3, .ref r4, .ref r5, .ref r6, .ref r7, .int (nI k), .int tl])), (r0, .inl (cI, 30, .inl (upd (ro 0) k (nI x)))), (r1, .inl (cI, 30, .inl (upd (ro 1) k (nI y)))), (r2, .inl (cI, 30, .inl (upd (ro 2) k ((v (x - 1)) - (v y))))), (r4, .inl (cI, 30, .inl (ro 4))), (r5, .inl (cI, 30, .inl (ro 5))), (r6, .inl (cI, 30, .inl (ro 6))), (r7, .inl (cI, 30, .inl (ro 7))), (va, .inl (cI, 460, .inl v))]) (w1 := [(r3, .inl (cI, 30, .inl (ftPut 30 (ro 3) (nI k) ((ftGr v x (y - x)) - (v (x - 1))))))]) (ws1 := [(a0, .inr (7, [.ref r0, .ref r1, .ref r2, .ref r3, .ref r4, .ref r5, .ref r6, .ref r7, .int (nI k), .int tl])), (r0, .inl (cI, 30, .inl (upd (ro 0) k (nI x)))), (r1, .inl (cI, 30, .inl (upd (ro 1) k (nI y)))), (r2, .inl (cI, 30, .inl (upd (ro 2) k ((v (x - 1)) - (v y))))), (r3, .inl (cI, 30, .inl (ftPut 30 (ro 3) (nI k) ((ftGr v x (y - x)) - (v (x - 1)))))), (r4, .inl (cI, 30, .inl (ro 4))), (r5, .inl (cI, 30, .inl (ro 5))), (r6, .inl (cI, 30, .inl (ro 6))), (r7, .inl (cI, 30, .inl (ro 7))), (va, .inl (cI, 460, .inl v))]) (va_runSN (As := [.ref r3, .int (nI k), .int ((ftGr v x (y - x)) - (v (x - 1)))]) (rest := []) ⟨hx, hb, hml, hown, hts⟩ (c_X10_put l D cI cS H.size r3 30 (ro 3) (nI k) ((ftGr v x (y - x)) - (v (x - 1))) (by first | assumption | omega)) ⟨va_cnB 3 hts gX7_addEvent_X10_put_n55 rfl rfl rfl (hKK.2 _ (List.mem_of_getElem? (i := 23) rfl)) (hts (.initialized RX10) (by decide +kernel)) (by decide +kernel) ⟨Nat.le_of_ble_eq_true rfl, Nat.le_of_ble_eq_true rfl⟩, hts (.static yX10_put) (by decide +kernel), trivial⟩ (ft_preRW hP hD hKK [4] rfl rfl rfl) rfl rfl hl.1 rfl (lv_room (Nat.le_of_ble_eq_true rfl)) dX7_addEvent_104 ⟨Nat.le_of_ble_eq_true rfl, Nat.le_of_ble_eq_true rfl⟩) hP hD hS hA [4] [0, 1, 2, 3, 5, 6, 7, 8, 9] [0, 1, 2, 3, 9, 4, 5, 6, 7, 8] rfl rfl (by decide) (by decide) (by decide) rfl rfl (fun H locs hP hD hS => ?_)
      rw [ftPut_N (k := k) (by omega) (by omega)] at hP hD
      have hP : va_P D vwCl [(a0, .inr (7, [.ref r0, .ref r1, .ref r2, .ref r3, .ref r4, .ref r5, .ref r6, .ref r7, .int (nI k), .int tl])), (r0, .inl (cI, 30, .inl (upd (ro 0) k (nI x)))), (r1, .inl (cI, 30, .inl (upd (ro 1) k (nI y)))), (r2, .inl (cI, 30, .inl (upd (ro 2) k ((v (x - 1)) - (v y))))), (r3, .inl (cI, 30, .inl (upd (ro 3) k ((ftGr v x (y - x)) - (v (x - 1)))))), (r4, .inl (cI, 30, .inl (ro 4))), (r5, .inl (cI, 30, .inl (ro 5))), (r6, .inl (cI, 30, .inl (ro 6))), (r7, .inl (cI, 30, .inl (ro 7))), (va, .inl (cI, 460, .inl v))] H := hP
      have hD : va_D A [(a0, .inr (7, [.ref r0, .ref r1, .ref r2, .ref r3, .ref r4, .ref r5, .ref r6, .ref r7, .int (nI k), .int tl])), (r0, .inl (cI, 30, .inl (upd (ro 0) k (nI x)))), (r1, .inl (cI, 30, .inl (upd (ro 1) k (nI y)))), (r2, .inl (cI, 30, .inl (upd (ro 2) k ((v (x - 1)) - (v y))))), (r3, .inl (cI, 30, .inl (upd (ro 3) k ((ftGr v x (y - x)) - (v (x - 1)))))), (r4, .inl (cI, 30, .inl (ro 4))), (r5, .inl (cI, 30, .inl (ro 5))), (r6, .inl (cI, 30, .inl (ro 6))), (r7, .inl (cI, 30, .inl (ro 7))), (va, .inl (cI, 460, .inl v))] := hD
      refine lv_aload_n hx hb dX7_addEvent_107 rfl (lv_at hl 2 rfl) ?_
      refine va_get (D := D) (ci := 7) (v := .ref r4) (C := RX7) (T := TX7) (N := 10) hx hb hts (by decide +kernel) hown hK hP 0 rfl rfl 4 (by decide) (hts (.fieldLink RX7 24 "FiberTrace$Reading" "kinds" "[I") (by decide +kernel)) (fun _ h9 => h9) rfl dX7_addEvent_108 ?_
      refine lv_aload_n hx hb dX7_addEvent_111 rfl (lv_at hl 2 rfl) ?_
      refine va_get (D := D) (ci := 7) (v := .int (nI k)) (C := RX7) (T := TX7) (N := 10) hx hb hts (by decide +kernel) hown hK hP 0 rfl rfl 8 (by decide) (hts (.fieldLink RX7 36 "FiberTrace$Reading" "size" "I") (by decide +kernel)) (fun _ h9 => h9) rfl dX7_addEvent_112 ?_
      refine lv_iload hx hb dX7_addEvent_115 (lv_at hl 6 rfl) ?_
      refine lv_if_eq (tgt := 124) hx hb dX7_addEvent_117 (by decide) (fun c117 => ?_) (fun c117 => ?_)
      · exact absurd c117 c88
      · refine lv_iconst (v := 1) hx hb dX7_addEvent_120 (by decide) ?_
        refine lv_goto (tgt := 125) hx hb dX7_addEvent_121 (by decide) ?_
        refine ft_cv (wc := [(r4, .inl (cI, 30, .inl (ro 4)))]) (wr := [(a0, .inr (7, [.ref r0, .ref r1, .ref r2, .ref r3, .ref r4, .ref r5, .ref r6, .ref r7, .int (nI k), .int tl])), (r0, .inl (cI, 30, .inl (upd (ro 0) k (nI x)))), (r1, .inl (cI, 30, .inl (upd (ro 1) k (nI y)))), (r2, .inl (cI, 30, .inl (upd (ro 2) k ((v (x - 1)) - (v y))))), (r3, .inl (cI, 30, .inl (upd (ro 3) k ((ftGr v x (y - x)) - (v (x - 1)))))), (r5, .inl (cI, 30, .inl (ro 5))), (r6, .inl (cI, 30, .inl (ro 6))), (r7, .inl (cI, 30, .inl (ro 7))), (va, .inl (cI, 460, .inl v))]) (w1 := [(r4, .inl (cI, 30, .inl (ftPut 30 (ro 4) (nI k) 1)))]) (ws1 := [(a0, .inr (7, [.ref r0, .ref r1, .ref r2, .ref r3, .ref r4, .ref r5, .ref r6, .ref r7, .int (nI k), .int tl])), (r0, .inl (cI, 30, .inl (upd (ro 0) k (nI x)))), (r1, .inl (cI, 30, .inl (upd (ro 1) k (nI y)))), (r2, .inl (cI, 30, .inl (upd (ro 2) k ((v (x - 1)) - (v y))))), (r3, .inl (cI, 30, .inl (upd (ro 3) k ((ftGr v x (y - x)) - (v (x - 1)))))), (r4, .inl (cI, 30, .inl (ftPut 30 (ro 4) (nI k) 1))), (r5, .inl (cI, 30, .inl (ro 5))), (r6, .inl (cI, 30, .inl (ro 6))), (r7, .inl (cI, 30, .inl (ro 7))), (va, .inl (cI, 460, .inl v))]) (va_runSN (As := [.ref r4, .int (nI k), .int 1]) (rest := []) ⟨hx, hb, hml, hown, hts⟩ (c_X10_put l D cI cS H.size r4 30 (ro 4) (nI k) 1 (by first | assumption | omega)) ⟨va_cnB 3 hts gX7_addEvent_X10_put_n55 rfl rfl rfl (hKK.2 _ (List.mem_of_getElem? (i := 23) rfl)) (hts (.initialized RX10) (by decide +kernel)) (by decide +kernel) ⟨Nat.le_of_ble_eq_true rfl, Nat.le_of_ble_eq_true rfl⟩, hts (.static yX10_put) (by decide +kernel), trivial⟩ (ft_preRW hP hD hKK [5] rfl rfl rfl) rfl rfl hl.1 rfl (lv_room (Nat.le_of_ble_eq_true rfl)) dX7_addEvent_125 ⟨Nat.le_of_ble_eq_true rfl, Nat.le_of_ble_eq_true rfl⟩) hP hD hS hA [5] [0, 1, 2, 3, 4, 6, 7, 8, 9] [0, 1, 2, 3, 4, 9, 5, 6, 7, 8] rfl rfl (by decide) (by decide) (by decide) rfl rfl (fun H locs hP hD hS => ?_)
        rw [ftPut_N (k := k) (by omega) (by omega)] at hP hD
        have hP : va_P D vwCl [(a0, .inr (7, [.ref r0, .ref r1, .ref r2, .ref r3, .ref r4, .ref r5, .ref r6, .ref r7, .int (nI k), .int tl])), (r0, .inl (cI, 30, .inl (upd (ro 0) k (nI x)))), (r1, .inl (cI, 30, .inl (upd (ro 1) k (nI y)))), (r2, .inl (cI, 30, .inl (upd (ro 2) k ((v (x - 1)) - (v y))))), (r3, .inl (cI, 30, .inl (upd (ro 3) k ((ftGr v x (y - x)) - (v (x - 1)))))), (r4, .inl (cI, 30, .inl (upd (ro 4) k 1))), (r5, .inl (cI, 30, .inl (ro 5))), (r6, .inl (cI, 30, .inl (ro 6))), (r7, .inl (cI, 30, .inl (ro 7))), (va, .inl (cI, 460, .inl v))] H := hP
        have hD : va_D A [(a0, .inr (7, [.ref r0, .ref r1, .ref r2, .ref r3, .ref r4, .ref r5, .ref r6, .ref r7, .int (nI k), .int tl])), (r0, .inl (cI, 30, .inl (upd (ro 0) k (nI x)))), (r1, .inl (cI, 30, .inl (upd (ro 1) k (nI y)))), (r2, .inl (cI, 30, .inl (upd (ro 2) k ((v (x - 1)) - (v y))))), (r3, .inl (cI, 30, .inl (upd (ro 3) k ((ftGr v x (y - x)) - (v (x - 1)))))), (r4, .inl (cI, 30, .inl (upd (ro 4) k 1))), (r5, .inl (cI, 30, .inl (ro 5))), (r6, .inl (cI, 30, .inl (ro 6))), (r7, .inl (cI, 30, .inl (ro 7))), (va, .inl (cI, 460, .inl v))] := hD
        refine lv_aload_n hx hb dX7_addEvent_128 rfl (lv_at hl 2 rfl) ?_
        refine va_get (D := D) (ci := 7) (v := .ref r5) (C := RX7) (T := TX7) (N := 10) hx hb hts (by decide +kernel) hown hK hP 0 rfl rfl 5 (by decide) (hts (.fieldLink RX7 27 "FiberTrace$Reading" "sectionLosses" "[I") (by decide +kernel)) (fun _ h9 => h9) rfl dX7_addEvent_129 ?_
        refine lv_aload_n hx hb dX7_addEvent_132 rfl (lv_at hl 2 rfl) ?_
        refine va_get (D := D) (ci := 7) (v := .int (nI k)) (C := RX7) (T := TX7) (N := 10) hx hb hts (by decide +kernel) hown hK hP 0 rfl rfl 8 (by decide) (hts (.fieldLink RX7 36 "FiberTrace$Reading" "size" "I") (by decide +kernel)) (fun _ h9 => h9) rfl dX7_addEvent_133 ?_
        refine lv_aload_n hx hb dX7_addEvent_136 rfl (lv_at hl 3 rfl) ?_
        refine lv_iload hx hb dX7_addEvent_137 (lv_at hl 0 rfl) ?_
        refine ft_csi (r := ftAt 460 v (nI y9)) (va_runSN (As := [.ref va, .int (nI y9)]) (rest := [.int (nI k), .ref r5]) ⟨hx, hb, hml, hown, hts⟩ (c_X10_at l D cI cS va 460 v (nI y9) (by first | assumption | omega)) ⟨va_cnB 2 hts gX7_addEvent_X10_at_n40 rfl rfl rfl (hKK.2 _ (List.mem_of_getElem? (i := 22) rfl)) (hts (.initialized RX10) (by decide +kernel)) (by decide +kernel) ⟨Nat.le_of_ble_eq_true rfl, Nat.le_of_ble_eq_true rfl⟩, hts (.static yX10_at) (by decide +kernel), trivial⟩ (ft_preRO hP hKK [9] rfl) rfl rfl hl.1 rfl (lv_room (Nat.le_of_ble_eq_true rfl)) dX7_addEvent_139 ⟨Nat.le_of_ble_eq_true rfl, Nat.le_of_ble_eq_true rfl⟩) ?_
        refine ft_top (y := v y9) (ftAt_N (by omega) (by omega)) ?_
        refine lv_iload hx hb dX7_addEvent_142 (lv_at hl 1 rfl) ?_
        refine lv_isub hx hb dX7_addEvent_144 ?_
        refine ft_cv (wc := [(r5, .inl (cI, 30, .inl (ro 5)))]) (wr := [(a0, .inr (7, [.ref r0, .ref r1, .ref r2, .ref r3, .ref r4, .ref r5, .ref r6, .ref r7, .int (nI k), .int tl])), (r0, .inl (cI, 30, .inl (upd (ro 0) k (nI x)))), (r1, .inl (cI, 30, .inl (upd (ro 1) k (nI y)))), (r2, .inl (cI, 30, .inl (upd (ro 2) k ((v (x - 1)) - (v y))))), (r3, .inl (cI, 30, .inl (upd (ro 3) k ((ftGr v x (y - x)) - (v (x - 1)))))), (r4, .inl (cI, 30, .inl (upd (ro 4) k 1))), (r6, .inl (cI, 30, .inl (ro 6))), (r7, .inl (cI, 30, .inl (ro 7))), (va, .inl (cI, 460, .inl v))]) (w1 := [(r5, .inl (cI, 30, .inl (ftPut 30 (ro 5) (nI k) ((v y9) - (v (x - 1))))))]) (ws1 := [(a0, .inr (7, [.ref r0, .ref r1, .ref r2, .ref r3, .ref r4, .ref r5, .ref r6, .ref r7, .int (nI k), .int tl])), (r0, .inl (cI, 30, .inl (upd (ro 0) k (nI x)))), (r1, .inl (cI, 30, .inl (upd (ro 1) k (nI y)))), (r2, .inl (cI, 30, .inl (upd (ro 2) k ((v (x - 1)) - (v y))))), (r3, .inl (cI, 30, .inl (upd (ro 3) k ((ftGr v x (y - x)) - (v (x - 1)))))), (r4, .inl (cI, 30, .inl (upd (ro 4) k 1))), (r5, .inl (cI, 30, .inl (ftPut 30 (ro 5) (nI k) ((v y9) - (v (x - 1)))))), (r6, .inl (cI, 30, .inl (ro 6))), (r7, .inl (cI, 30, .inl (ro 7))), (va, .inl (cI, 460, .inl v))]) (va_runSN (As := [.ref r5, .int (nI k), .int ((v y9) - (v (x - 1)))]) (rest := []) ⟨hx, hb, hml, hown, hts⟩ (c_X10_put l D cI cS H.size r5 30 (ro 5) (nI k) ((v y9) - (v (x - 1))) (by first | assumption | omega)) ⟨va_cnB 3 hts gX7_addEvent_X10_put_n55 rfl rfl rfl (hKK.2 _ (List.mem_of_getElem? (i := 23) rfl)) (hts (.initialized RX10) (by decide +kernel)) (by decide +kernel) ⟨Nat.le_of_ble_eq_true rfl, Nat.le_of_ble_eq_true rfl⟩, hts (.static yX10_put) (by decide +kernel), trivial⟩ (ft_preRW hP hD hKK [6] rfl rfl rfl) rfl rfl hl.1 rfl (lv_room (Nat.le_of_ble_eq_true rfl)) dX7_addEvent_145 ⟨Nat.le_of_ble_eq_true rfl, Nat.le_of_ble_eq_true rfl⟩) hP hD hS hA [6] [0, 1, 2, 3, 4, 5, 7, 8, 9] [0, 1, 2, 3, 4, 5, 9, 6, 7, 8] rfl rfl (by decide) (by decide) (by decide) rfl rfl (fun H locs hP hD hS => ?_)
        rw [ftPut_N (k := k) (by omega) (by omega)] at hP hD
        have hP : va_P D vwCl [(a0, .inr (7, [.ref r0, .ref r1, .ref r2, .ref r3, .ref r4, .ref r5, .ref r6, .ref r7, .int (nI k), .int tl])), (r0, .inl (cI, 30, .inl (upd (ro 0) k (nI x)))), (r1, .inl (cI, 30, .inl (upd (ro 1) k (nI y)))), (r2, .inl (cI, 30, .inl (upd (ro 2) k ((v (x - 1)) - (v y))))), (r3, .inl (cI, 30, .inl (upd (ro 3) k ((ftGr v x (y - x)) - (v (x - 1)))))), (r4, .inl (cI, 30, .inl (upd (ro 4) k 1))), (r5, .inl (cI, 30, .inl (upd (ro 5) k ((v y9) - (v (x - 1)))))), (r6, .inl (cI, 30, .inl (ro 6))), (r7, .inl (cI, 30, .inl (ro 7))), (va, .inl (cI, 460, .inl v))] H := hP
        have hD : va_D A [(a0, .inr (7, [.ref r0, .ref r1, .ref r2, .ref r3, .ref r4, .ref r5, .ref r6, .ref r7, .int (nI k), .int tl])), (r0, .inl (cI, 30, .inl (upd (ro 0) k (nI x)))), (r1, .inl (cI, 30, .inl (upd (ro 1) k (nI y)))), (r2, .inl (cI, 30, .inl (upd (ro 2) k ((v (x - 1)) - (v y))))), (r3, .inl (cI, 30, .inl (upd (ro 3) k ((ftGr v x (y - x)) - (v (x - 1)))))), (r4, .inl (cI, 30, .inl (upd (ro 4) k 1))), (r5, .inl (cI, 30, .inl (upd (ro 5) k ((v y9) - (v (x - 1)))))), (r6, .inl (cI, 30, .inl (ro 6))), (r7, .inl (cI, 30, .inl (ro 7))), (va, .inl (cI, 460, .inl v))] := hD
        refine lv_aload_n hx hb dX7_addEvent_148 rfl (lv_at hl 2 rfl) ?_
        refine va_get (D := D) (ci := 7) (v := .ref r6) (C := RX7) (T := TX7) (N := 10) hx hb hts (by decide +kernel) hown hK hP 0 rfl rfl 6 (by decide) (hts (.fieldLink RX7 30 "FiberTrace$Reading" "firstMakers" "[I") (by decide +kernel)) (fun _ h9 => h9) rfl dX7_addEvent_149 ?_
        refine lv_aload_n hx hb dX7_addEvent_152 rfl (lv_at hl 2 rfl) ?_
        refine va_get (D := D) (ci := 7) (v := .int (nI k)) (C := RX7) (T := TX7) (N := 10) hx hb hts (by decide +kernel) hown hK hP 0 rfl rfl 8 (by decide) (hts (.fieldLink RX7 36 "FiberTrace$Reading" "size" "I") (by decide +kernel)) (fun _ h9 => h9) rfl dX7_addEvent_153 ?_
        refine lv_iconst (v := (-1)) hx hb dX7_addEvent_156 (by decide) ?_
        refine ft_cv (wc := [(r6, .inl (cI, 30, .inl (ro 6)))]) (wr := [(a0, .inr (7, [.ref r0, .ref r1, .ref r2, .ref r3, .ref r4, .ref r5, .ref r6, .ref r7, .int (nI k), .int tl])), (r0, .inl (cI, 30, .inl (upd (ro 0) k (nI x)))), (r1, .inl (cI, 30, .inl (upd (ro 1) k (nI y)))), (r2, .inl (cI, 30, .inl (upd (ro 2) k ((v (x - 1)) - (v y))))), (r3, .inl (cI, 30, .inl (upd (ro 3) k ((ftGr v x (y - x)) - (v (x - 1)))))), (r4, .inl (cI, 30, .inl (upd (ro 4) k 1))), (r5, .inl (cI, 30, .inl (upd (ro 5) k ((v y9) - (v (x - 1)))))), (r7, .inl (cI, 30, .inl (ro 7))), (va, .inl (cI, 460, .inl v))]) (w1 := [(r6, .inl (cI, 30, .inl (ftPut 30 (ro 6) (nI k) (-1))))]) (ws1 := [(a0, .inr (7, [.ref r0, .ref r1, .ref r2, .ref r3, .ref r4, .ref r5, .ref r6, .ref r7, .int (nI k), .int tl])), (r0, .inl (cI, 30, .inl (upd (ro 0) k (nI x)))), (r1, .inl (cI, 30, .inl (upd (ro 1) k (nI y)))), (r2, .inl (cI, 30, .inl (upd (ro 2) k ((v (x - 1)) - (v y))))), (r3, .inl (cI, 30, .inl (upd (ro 3) k ((ftGr v x (y - x)) - (v (x - 1)))))), (r4, .inl (cI, 30, .inl (upd (ro 4) k 1))), (r5, .inl (cI, 30, .inl (upd (ro 5) k ((v y9) - (v (x - 1)))))), (r6, .inl (cI, 30, .inl (ftPut 30 (ro 6) (nI k) (-1)))), (r7, .inl (cI, 30, .inl (ro 7))), (va, .inl (cI, 460, .inl v))]) (va_runSN (As := [.ref r6, .int (nI k), .int (-1)]) (rest := []) ⟨hx, hb, hml, hown, hts⟩ (c_X10_put l D cI cS H.size r6 30 (ro 6) (nI k) (-1) (by first | assumption | omega)) ⟨va_cnB 3 hts gX7_addEvent_X10_put_n55 rfl rfl rfl (hKK.2 _ (List.mem_of_getElem? (i := 23) rfl)) (hts (.initialized RX10) (by decide +kernel)) (by decide +kernel) ⟨Nat.le_of_ble_eq_true rfl, Nat.le_of_ble_eq_true rfl⟩, hts (.static yX10_put) (by decide +kernel), trivial⟩ (ft_preRW hP hD hKK [7] rfl rfl rfl) rfl rfl hl.1 rfl (lv_room (Nat.le_of_ble_eq_true rfl)) dX7_addEvent_157 ⟨Nat.le_of_ble_eq_true rfl, Nat.le_of_ble_eq_true rfl⟩) hP hD hS hA [7] [0, 1, 2, 3, 4, 5, 6, 8, 9] [0, 1, 2, 3, 4, 5, 6, 9, 7, 8] rfl rfl (by decide) (by decide) (by decide) rfl rfl (fun H locs hP hD hS => ?_)
        rw [ftPut_N (k := k) (by omega) (by omega)] at hP hD
        have hP : va_P D vwCl [(a0, .inr (7, [.ref r0, .ref r1, .ref r2, .ref r3, .ref r4, .ref r5, .ref r6, .ref r7, .int (nI k), .int tl])), (r0, .inl (cI, 30, .inl (upd (ro 0) k (nI x)))), (r1, .inl (cI, 30, .inl (upd (ro 1) k (nI y)))), (r2, .inl (cI, 30, .inl (upd (ro 2) k ((v (x - 1)) - (v y))))), (r3, .inl (cI, 30, .inl (upd (ro 3) k ((ftGr v x (y - x)) - (v (x - 1)))))), (r4, .inl (cI, 30, .inl (upd (ro 4) k 1))), (r5, .inl (cI, 30, .inl (upd (ro 5) k ((v y9) - (v (x - 1)))))), (r6, .inl (cI, 30, .inl (upd (ro 6) k (-1)))), (r7, .inl (cI, 30, .inl (ro 7))), (va, .inl (cI, 460, .inl v))] H := hP
        have hD : va_D A [(a0, .inr (7, [.ref r0, .ref r1, .ref r2, .ref r3, .ref r4, .ref r5, .ref r6, .ref r7, .int (nI k), .int tl])), (r0, .inl (cI, 30, .inl (upd (ro 0) k (nI x)))), (r1, .inl (cI, 30, .inl (upd (ro 1) k (nI y)))), (r2, .inl (cI, 30, .inl (upd (ro 2) k ((v (x - 1)) - (v y))))), (r3, .inl (cI, 30, .inl (upd (ro 3) k ((ftGr v x (y - x)) - (v (x - 1)))))), (r4, .inl (cI, 30, .inl (upd (ro 4) k 1))), (r5, .inl (cI, 30, .inl (upd (ro 5) k ((v y9) - (v (x - 1)))))), (r6, .inl (cI, 30, .inl (upd (ro 6) k (-1)))), (r7, .inl (cI, 30, .inl (ro 7))), (va, .inl (cI, 460, .inl v))] := hD
        refine lv_aload_n hx hb dX7_addEvent_160 rfl (lv_at hl 2 rfl) ?_
        refine va_get (D := D) (ci := 7) (v := .ref r7) (C := RX7) (T := TX7) (N := 10) hx hb hts (by decide +kernel) hown hK hP 0 rfl rfl 7 (by decide) (hts (.fieldLink RX7 33 "FiberTrace$Reading" "secondMakers" "[I") (by decide +kernel)) (fun _ h9 => h9) rfl dX7_addEvent_161 ?_
        refine lv_aload_n hx hb dX7_addEvent_164 rfl (lv_at hl 2 rfl) ?_
        refine va_get (D := D) (ci := 7) (v := .int (nI k)) (C := RX7) (T := TX7) (N := 10) hx hb hts (by decide +kernel) hown hK hP 0 rfl rfl 8 (by decide) (hts (.fieldLink RX7 36 "FiberTrace$Reading" "size" "I") (by decide +kernel)) (fun _ h9 => h9) rfl dX7_addEvent_165 ?_
        refine lv_iconst (v := (-1)) hx hb dX7_addEvent_168 (by decide) ?_
        refine ft_cv (wc := [(r7, .inl (cI, 30, .inl (ro 7)))]) (wr := [(a0, .inr (7, [.ref r0, .ref r1, .ref r2, .ref r3, .ref r4, .ref r5, .ref r6, .ref r7, .int (nI k), .int tl])), (r0, .inl (cI, 30, .inl (upd (ro 0) k (nI x)))), (r1, .inl (cI, 30, .inl (upd (ro 1) k (nI y)))), (r2, .inl (cI, 30, .inl (upd (ro 2) k ((v (x - 1)) - (v y))))), (r3, .inl (cI, 30, .inl (upd (ro 3) k ((ftGr v x (y - x)) - (v (x - 1)))))), (r4, .inl (cI, 30, .inl (upd (ro 4) k 1))), (r5, .inl (cI, 30, .inl (upd (ro 5) k ((v y9) - (v (x - 1)))))), (r6, .inl (cI, 30, .inl (upd (ro 6) k (-1)))), (va, .inl (cI, 460, .inl v))]) (w1 := [(r7, .inl (cI, 30, .inl (ftPut 30 (ro 7) (nI k) (-1))))]) (ws1 := [(a0, .inr (7, [.ref r0, .ref r1, .ref r2, .ref r3, .ref r4, .ref r5, .ref r6, .ref r7, .int (nI k), .int tl])), (r0, .inl (cI, 30, .inl (upd (ro 0) k (nI x)))), (r1, .inl (cI, 30, .inl (upd (ro 1) k (nI y)))), (r2, .inl (cI, 30, .inl (upd (ro 2) k ((v (x - 1)) - (v y))))), (r3, .inl (cI, 30, .inl (upd (ro 3) k ((ftGr v x (y - x)) - (v (x - 1)))))), (r4, .inl (cI, 30, .inl (upd (ro 4) k 1))), (r5, .inl (cI, 30, .inl (upd (ro 5) k ((v y9) - (v (x - 1)))))), (r6, .inl (cI, 30, .inl (upd (ro 6) k (-1)))), (r7, .inl (cI, 30, .inl (ftPut 30 (ro 7) (nI k) (-1)))), (va, .inl (cI, 460, .inl v))]) (va_runSN (As := [.ref r7, .int (nI k), .int (-1)]) (rest := []) ⟨hx, hb, hml, hown, hts⟩ (c_X10_put l D cI cS H.size r7 30 (ro 7) (nI k) (-1) (by first | assumption | omega)) ⟨va_cnB 3 hts gX7_addEvent_X10_put_n55 rfl rfl rfl (hKK.2 _ (List.mem_of_getElem? (i := 23) rfl)) (hts (.initialized RX10) (by decide +kernel)) (by decide +kernel) ⟨Nat.le_of_ble_eq_true rfl, Nat.le_of_ble_eq_true rfl⟩, hts (.static yX10_put) (by decide +kernel), trivial⟩ (ft_preRW hP hD hKK [8] rfl rfl rfl) rfl rfl hl.1 rfl (lv_room (Nat.le_of_ble_eq_true rfl)) dX7_addEvent_169 ⟨Nat.le_of_ble_eq_true rfl, Nat.le_of_ble_eq_true rfl⟩) hP hD hS hA [8] [0, 1, 2, 3, 4, 5, 6, 7, 9] [0, 1, 2, 3, 4, 5, 6, 7, 9, 8] rfl rfl (by decide) (by decide) (by decide) rfl rfl (fun H locs hP hD hS => ?_)
        rw [ftPut_N (k := k) (by omega) (by omega)] at hP hD
        have hP : va_P D vwCl [(a0, .inr (7, [.ref r0, .ref r1, .ref r2, .ref r3, .ref r4, .ref r5, .ref r6, .ref r7, .int (nI k), .int tl])), (r0, .inl (cI, 30, .inl (upd (ro 0) k (nI x)))), (r1, .inl (cI, 30, .inl (upd (ro 1) k (nI y)))), (r2, .inl (cI, 30, .inl (upd (ro 2) k ((v (x - 1)) - (v y))))), (r3, .inl (cI, 30, .inl (upd (ro 3) k ((ftGr v x (y - x)) - (v (x - 1)))))), (r4, .inl (cI, 30, .inl (upd (ro 4) k 1))), (r5, .inl (cI, 30, .inl (upd (ro 5) k ((v y9) - (v (x - 1)))))), (r6, .inl (cI, 30, .inl (upd (ro 6) k (-1)))), (r7, .inl (cI, 30, .inl (upd (ro 7) k (-1)))), (va, .inl (cI, 460, .inl v))] H := hP
        have hD : va_D A [(a0, .inr (7, [.ref r0, .ref r1, .ref r2, .ref r3, .ref r4, .ref r5, .ref r6, .ref r7, .int (nI k), .int tl])), (r0, .inl (cI, 30, .inl (upd (ro 0) k (nI x)))), (r1, .inl (cI, 30, .inl (upd (ro 1) k (nI y)))), (r2, .inl (cI, 30, .inl (upd (ro 2) k ((v (x - 1)) - (v y))))), (r3, .inl (cI, 30, .inl (upd (ro 3) k ((ftGr v x (y - x)) - (v (x - 1)))))), (r4, .inl (cI, 30, .inl (upd (ro 4) k 1))), (r5, .inl (cI, 30, .inl (upd (ro 5) k ((v y9) - (v (x - 1)))))), (r6, .inl (cI, 30, .inl (upd (ro 6) k (-1)))), (r7, .inl (cI, 30, .inl (upd (ro 7) k (-1)))), (va, .inl (cI, 460, .inl v))] := hD
        refine lv_aload_n hx hb dX7_addEvent_172 rfl (lv_at hl 2 rfl) ?_
        refine lv_dup hx hb dX7_addEvent_173 rfl ?_
        refine va_get (D := D) (ci := 7) (v := .int (nI k)) (C := RX7) (T := TX7) (N := 10) hx hb hts (by decide +kernel) hown hK hP 0 rfl rfl 8 (by decide) (hts (.fieldLink RX7 36 "FiberTrace$Reading" "size" "I") (by decide +kernel)) (fun _ h9 => h9) rfl dX7_addEvent_174 ?_
        refine lv_iconst (v := 1) hx hb dX7_addEvent_177 (by decide) ?_
        refine lv_iadd hx hb dX7_addEvent_178 ?_
        refine ft_top (y := nI (k + 1)) (ft_addN k 1) ?_
        refine va_put (D := D) (ci := 7) (v := .int (nI (k + 1))) (ty := .int) (C := RX7) (T := TX7) (N := 10) hx hb hts (by decide +kernel) tyX7 tyX7_ok nmX7 hown hK hP hD hS 0 rfl rfl 8 (by decide) (hts (.fieldLink RX7 36 "FiberTrace$Reading" "size" "I") (by decide +kernel)) (fun _ h9 => h9) rfl (by decide +kernel) rfl rfl (Nat.le_of_ble_eq_true rfl) dX7_addEvent_179 (fun H locs hP hD hS => ?_)
        have hP : va_P D vwCl [(a0, .inr (7, [.ref r0, .ref r1, .ref r2, .ref r3, .ref r4, .ref r5, .ref r6, .ref r7, .int (nI (k + 1)), .int tl])), (r0, .inl (cI, 30, .inl (upd (ro 0) k (nI x)))), (r1, .inl (cI, 30, .inl (upd (ro 1) k (nI y)))), (r2, .inl (cI, 30, .inl (upd (ro 2) k ((v (x - 1)) - (v y))))), (r3, .inl (cI, 30, .inl (upd (ro 3) k ((ftGr v x (y - x)) - (v (x - 1)))))), (r4, .inl (cI, 30, .inl (upd (ro 4) k 1))), (r5, .inl (cI, 30, .inl (upd (ro 5) k ((v y9) - (v (x - 1)))))), (r6, .inl (cI, 30, .inl (upd (ro 6) k (-1)))), (r7, .inl (cI, 30, .inl (upd (ro 7) k (-1)))), (va, .inl (cI, 460, .inl v))] H := hP
        have hD : va_D A [(a0, .inr (7, [.ref r0, .ref r1, .ref r2, .ref r3, .ref r4, .ref r5, .ref r6, .ref r7, .int (nI (k + 1)), .int tl])), (r0, .inl (cI, 30, .inl (upd (ro 0) k (nI x)))), (r1, .inl (cI, 30, .inl (upd (ro 1) k (nI y)))), (r2, .inl (cI, 30, .inl (upd (ro 2) k ((v (x - 1)) - (v y))))), (r3, .inl (cI, 30, .inl (upd (ro 3) k ((ftGr v x (y - x)) - (v (x - 1)))))), (r4, .inl (cI, 30, .inl (upd (ro 4) k 1))), (r5, .inl (cI, 30, .inl (upd (ro 5) k ((v y9) - (v (x - 1)))))), (r6, .inl (cI, 30, .inl (upd (ro 6) k (-1)))), (r7, .inl (cI, 30, .inl (upd (ro 7) k (-1)))), (va, .inl (cI, 460, .inl v))] := hD
        have hw9 : ([(a0, .inr (7, [.ref r0, .ref r1, .ref r2, .ref r3, .ref r4, .ref r5, .ref r6, .ref r7, .int (nI (k + 1)), .int tl])), (r0, .inl (cI, 30, .inl (upd (ro 0) k (nI x)))), (r1, .inl (cI, 30, .inl (upd (ro 1) k (nI y)))), (r2, .inl (cI, 30, .inl (upd (ro 2) k ((v (x - 1)) - (v y))))), (r3, .inl (cI, 30, .inl (upd (ro 3) k ((ftGr v x (y - x)) - (v (x - 1)))))), (r4, .inl (cI, 30, .inl (upd (ro 4) k 1))), (r5, .inl (cI, 30, .inl (upd (ro 5) k ((v y9) - (v (x - 1)))))), (r6, .inl (cI, 30, .inl (upd (ro 6) k (-1)))), (r7, .inl (cI, 30, .inl (upd (ro 7) k (-1)))), (va, .inl (cI, 460, .inl v))] : va_W) = [(a0, .inr (7, [.ref r0, .ref r1, .ref r2, .ref r3, .ref r4, .ref r5, .ref r6, .ref r7, .int (nI (k + 1)), .int tl])), (r0, .inl (cI, 30, .inl (upd (ro 0) k (ftEvV v x y (ftSb ro k) rb 0)))), (r1, .inl (cI, 30, .inl (upd (ro 1) k (ftEvV v x y (ftSb ro k) rb 1)))), (r2, .inl (cI, 30, .inl (upd (ro 2) k (ftEvV v x y (ftSb ro k) rb 2)))), (r3, .inl (cI, 30, .inl (upd (ro 3) k (ftEvV v x y (ftSb ro k) rb 3)))), (r4, .inl (cI, 30, .inl (upd (ro 4) k (ftEvV v x y (ftSb ro k) rb 4)))), (r5, .inl (cI, 30, .inl (upd (ro 5) k (ftEvV v x y (ftSb ro k) rb 5)))), (r6, .inl (cI, 30, .inl (upd (ro 6) k (ftEvV v x y (ftSb ro k) rb 6)))), (r7, .inl (cI, 30, .inl (upd (ro 7) k (ftEvV v x y (ftSb ro k) rb 7)))), (va, .inl (cI, 460, .inl v))] := by first | (simp only [ftEvV, hsb9, if_pos c88]; done) | (simp only [ftEvV, hsb9, if_neg c88]; done)
        rw [hw9] at hP hD
        exact W.vret hx hb hr (fun t ht hW => ⟨⟨(), rfl, trivial, by rw [ht]; exact hP, by rw [hAe]; exact hD⟩, by rw [hAe]; exact hS.F ht⟩) hS.2.2 dX7_addEvent_182
  · have c13n : k = 0 := ft_eqN (by omega) (by omega) c13
    have hsb9 : ftSb ro k = 0 := if_pos (by omega)
    refine lv_iconst (v := 0) hx hb dX7_addEvent_16 (by decide) ?_
    refine lv_goto (tgt := 33) hx hb dX7_addEvent_17 (by decide) ?_
    refine lv_istore (lv' := [(6, .int 0), (5, .int (v (x - 1))), (0, .ref a0), (1, .ref va), (2, .int (nI x)), (3, .int (nI y)), (4, .int rb)]) hx hb dX7_addEvent_33 hl (by decide) rfl (fun ls hl => ?_)
    refine lv_aload_n hx hb dX7_addEvent_35 rfl (lv_at hl 2 rfl) ?_
    refine va_get (D := D) (ci := 7) (v := .ref r0) (C := RX7) (T := TX7) (N := 10) hx hb hts (by decide +kernel) hown hK hP 0 rfl rfl 0 (by decide) (hts (.fieldLink RX7 9 "FiberTrace$Reading" "begins" "[I") (by decide +kernel)) (fun _ h9 => h9) rfl dX7_addEvent_36 ?_
    refine lv_aload_n hx hb dX7_addEvent_39 rfl (lv_at hl 2 rfl) ?_
    refine va_get (D := D) (ci := 7) (v := .int (nI k)) (C := RX7) (T := TX7) (N := 10) hx hb hts (by decide +kernel) hown hK hP 0 rfl rfl 8 (by decide) (hts (.fieldLink RX7 36 "FiberTrace$Reading" "size" "I") (by decide +kernel)) (fun _ h9 => h9) rfl dX7_addEvent_40 ?_
    refine lv_iload_n hx hb dX7_addEvent_43 rfl (lv_at hl 4 rfl) ?_
    refine ft_cv (wc := [(r0, .inl (cI, 30, .inl (ro 0)))]) (wr := [(a0, .inr (7, [.ref r0, .ref r1, .ref r2, .ref r3, .ref r4, .ref r5, .ref r6, .ref r7, .int (nI k), .int tl])), (r1, .inl (cI, 30, .inl (ro 1))), (r2, .inl (cI, 30, .inl (ro 2))), (r3, .inl (cI, 30, .inl (ro 3))), (r4, .inl (cI, 30, .inl (ro 4))), (r5, .inl (cI, 30, .inl (ro 5))), (r6, .inl (cI, 30, .inl (ro 6))), (r7, .inl (cI, 30, .inl (ro 7))), (va, .inl (cI, 460, .inl v))]) (w1 := [(r0, .inl (cI, 30, .inl (ftPut 30 (ro 0) (nI k) (nI x))))]) (ws1 := [(a0, .inr (7, [.ref r0, .ref r1, .ref r2, .ref r3, .ref r4, .ref r5, .ref r6, .ref r7, .int (nI k), .int tl])), (r0, .inl (cI, 30, .inl (ftPut 30 (ro 0) (nI k) (nI x)))), (r1, .inl (cI, 30, .inl (ro 1))), (r2, .inl (cI, 30, .inl (ro 2))), (r3, .inl (cI, 30, .inl (ro 3))), (r4, .inl (cI, 30, .inl (ro 4))), (r5, .inl (cI, 30, .inl (ro 5))), (r6, .inl (cI, 30, .inl (ro 6))), (r7, .inl (cI, 30, .inl (ro 7))), (va, .inl (cI, 460, .inl v))]) (va_runSN (As := [.ref r0, .int (nI k), .int (nI x)]) (rest := []) ⟨hx, hb, hml, hown, hts⟩ (c_X10_put l D cI cS s.heap.size r0 30 (ro 0) (nI k) (nI x) (by first | assumption | omega)) ⟨va_cnB 3 hts gX7_addEvent_X10_put_n55 rfl rfl rfl (hKK.2 _ (List.mem_of_getElem? (i := 23) rfl)) (hts (.initialized RX10) (by decide +kernel)) (by decide +kernel) ⟨Nat.le_of_ble_eq_true rfl, Nat.le_of_ble_eq_true rfl⟩, hts (.static yX10_put) (by decide +kernel), trivial⟩ (ft_preRW hP hD hKK [1] rfl rfl rfl) rfl rfl hl.1 rfl (lv_room (Nat.le_of_ble_eq_true rfl)) dX7_addEvent_44 ⟨Nat.le_of_ble_eq_true rfl, Nat.le_of_ble_eq_true rfl⟩) hP hD hS hA [1] [0, 2, 3, 4, 5, 6, 7, 8, 9] [0, 9, 1, 2, 3, 4, 5, 6, 7, 8] rfl rfl (by decide) (by decide) (by decide) rfl rfl (fun H locs hP hD hS => ?_)
    rw [ftPut_N (k := k) (by omega) (by omega)] at hP hD
    have hP : va_P D vwCl [(a0, .inr (7, [.ref r0, .ref r1, .ref r2, .ref r3, .ref r4, .ref r5, .ref r6, .ref r7, .int (nI k), .int tl])), (r0, .inl (cI, 30, .inl (upd (ro 0) k (nI x)))), (r1, .inl (cI, 30, .inl (ro 1))), (r2, .inl (cI, 30, .inl (ro 2))), (r3, .inl (cI, 30, .inl (ro 3))), (r4, .inl (cI, 30, .inl (ro 4))), (r5, .inl (cI, 30, .inl (ro 5))), (r6, .inl (cI, 30, .inl (ro 6))), (r7, .inl (cI, 30, .inl (ro 7))), (va, .inl (cI, 460, .inl v))] H := hP
    have hD : va_D A [(a0, .inr (7, [.ref r0, .ref r1, .ref r2, .ref r3, .ref r4, .ref r5, .ref r6, .ref r7, .int (nI k), .int tl])), (r0, .inl (cI, 30, .inl (upd (ro 0) k (nI x)))), (r1, .inl (cI, 30, .inl (ro 1))), (r2, .inl (cI, 30, .inl (ro 2))), (r3, .inl (cI, 30, .inl (ro 3))), (r4, .inl (cI, 30, .inl (ro 4))), (r5, .inl (cI, 30, .inl (ro 5))), (r6, .inl (cI, 30, .inl (ro 6))), (r7, .inl (cI, 30, .inl (ro 7))), (va, .inl (cI, 460, .inl v))] := hD
    refine lv_aload_n hx hb dX7_addEvent_47 rfl (lv_at hl 2 rfl) ?_
    refine va_get (D := D) (ci := 7) (v := .ref r1) (C := RX7) (T := TX7) (N := 10) hx hb hts (by decide +kernel) hown hK hP 0 rfl rfl 1 (by decide) (hts (.fieldLink RX7 15 "FiberTrace$Reading" "ends" "[I") (by decide +kernel)) (fun _ h9 => h9) rfl dX7_addEvent_48 ?_
    refine lv_aload_n hx hb dX7_addEvent_51 rfl (lv_at hl 2 rfl) ?_
    refine va_get (D := D) (ci := 7) (v := .int (nI k)) (C := RX7) (T := TX7) (N := 10) hx hb hts (by decide +kernel) hown hK hP 0 rfl rfl 8 (by decide) (hts (.fieldLink RX7 36 "FiberTrace$Reading" "size" "I") (by decide +kernel)) (fun _ h9 => h9) rfl dX7_addEvent_52 ?_
    refine lv_iload_n hx hb dX7_addEvent_55 rfl (lv_at hl 5 rfl) ?_
    refine ft_cv (wc := [(r1, .inl (cI, 30, .inl (ro 1)))]) (wr := [(a0, .inr (7, [.ref r0, .ref r1, .ref r2, .ref r3, .ref r4, .ref r5, .ref r6, .ref r7, .int (nI k), .int tl])), (r0, .inl (cI, 30, .inl (upd (ro 0) k (nI x)))), (r2, .inl (cI, 30, .inl (ro 2))), (r3, .inl (cI, 30, .inl (ro 3))), (r4, .inl (cI, 30, .inl (ro 4))), (r5, .inl (cI, 30, .inl (ro 5))), (r6, .inl (cI, 30, .inl (ro 6))), (r7, .inl (cI, 30, .inl (ro 7))), (va, .inl (cI, 460, .inl v))]) (w1 := [(r1, .inl (cI, 30, .inl (ftPut 30 (ro 1) (nI k) (nI y))))]) (ws1 := [(a0, .inr (7, [.ref r0, .ref r1, .ref r2, .ref r3, .ref r4, .ref r5, .ref r6, .ref r7, .int (nI k), .int tl])), (r0, .inl (cI, 30, .inl (upd (ro 0) k (nI x)))), (r1, .inl (cI, 30, .inl (ftPut 30 (ro 1) (nI k) (nI y)))), (r2, .inl (cI, 30, .inl (ro 2))), (r3, .inl (cI, 30, .inl (ro 3))), (r4, .inl (cI, 30, .inl (ro 4))), (r5, .inl (cI, 30, .inl (ro 5))), (r6, .inl (cI, 30, .inl (ro 6))), (r7, .inl (cI, 30, .inl (ro 7))), (va, .inl (cI, 460, .inl v))]) (va_runSN (As := [.ref r1, .int (nI k), .int (nI y)]) (rest := []) ⟨hx, hb, hml, hown, hts⟩ (c_X10_put l D cI cS H.size r1 30 (ro 1) (nI k) (nI y) (by first | assumption | omega)) ⟨va_cnB 3 hts gX7_addEvent_X10_put_n55 rfl rfl rfl (hKK.2 _ (List.mem_of_getElem? (i := 23) rfl)) (hts (.initialized RX10) (by decide +kernel)) (by decide +kernel) ⟨Nat.le_of_ble_eq_true rfl, Nat.le_of_ble_eq_true rfl⟩, hts (.static yX10_put) (by decide +kernel), trivial⟩ (ft_preRW hP hD hKK [2] rfl rfl rfl) rfl rfl hl.1 rfl (lv_room (Nat.le_of_ble_eq_true rfl)) dX7_addEvent_56 ⟨Nat.le_of_ble_eq_true rfl, Nat.le_of_ble_eq_true rfl⟩) hP hD hS hA [2] [0, 1, 3, 4, 5, 6, 7, 8, 9] [0, 1, 9, 2, 3, 4, 5, 6, 7, 8] rfl rfl (by decide) (by decide) (by decide) rfl rfl (fun H locs hP hD hS => ?_)
    rw [ftPut_N (k := k) (by omega) (by omega)] at hP hD
    have hP : va_P D vwCl [(a0, .inr (7, [.ref r0, .ref r1, .ref r2, .ref r3, .ref r4, .ref r5, .ref r6, .ref r7, .int (nI k), .int tl])), (r0, .inl (cI, 30, .inl (upd (ro 0) k (nI x)))), (r1, .inl (cI, 30, .inl (upd (ro 1) k (nI y)))), (r2, .inl (cI, 30, .inl (ro 2))), (r3, .inl (cI, 30, .inl (ro 3))), (r4, .inl (cI, 30, .inl (ro 4))), (r5, .inl (cI, 30, .inl (ro 5))), (r6, .inl (cI, 30, .inl (ro 6))), (r7, .inl (cI, 30, .inl (ro 7))), (va, .inl (cI, 460, .inl v))] H := hP
    have hD : va_D A [(a0, .inr (7, [.ref r0, .ref r1, .ref r2, .ref r3, .ref r4, .ref r5, .ref r6, .ref r7, .int (nI k), .int tl])), (r0, .inl (cI, 30, .inl (upd (ro 0) k (nI x)))), (r1, .inl (cI, 30, .inl (upd (ro 1) k (nI y)))), (r2, .inl (cI, 30, .inl (ro 2))), (r3, .inl (cI, 30, .inl (ro 3))), (r4, .inl (cI, 30, .inl (ro 4))), (r5, .inl (cI, 30, .inl (ro 5))), (r6, .inl (cI, 30, .inl (ro 6))), (r7, .inl (cI, 30, .inl (ro 7))), (va, .inl (cI, 460, .inl v))] := hD
    refine lv_aload_n hx hb dX7_addEvent_59 rfl (lv_at hl 2 rfl) ?_
    refine va_get (D := D) (ci := 7) (v := .ref r2) (C := RX7) (T := TX7) (N := 10) hx hb hts (by decide +kernel) hown hK hP 0 rfl rfl 2 (by decide) (hts (.fieldLink RX7 18 "FiberTrace$Reading" "losses" "[I") (by decide +kernel)) (fun _ h9 => h9) rfl dX7_addEvent_60 ?_
    refine lv_aload_n hx hb dX7_addEvent_63 rfl (lv_at hl 2 rfl) ?_
    refine va_get (D := D) (ci := 7) (v := .int (nI k)) (C := RX7) (T := TX7) (N := 10) hx hb hts (by decide +kernel) hown hK hP 0 rfl rfl 8 (by decide) (hts (.fieldLink RX7 36 "FiberTrace$Reading" "size" "I") (by decide +kernel)) (fun _ h9 => h9) rfl dX7_addEvent_64 ?_
    refine lv_iload hx hb dX7_addEvent_67 (lv_at hl 1 rfl) ?_
    refine lv_aload_n hx hb dX7_addEvent_69 rfl (lv_at hl 3 rfl) ?_
    refine lv_iload_n hx hb dX7_addEvent_70 rfl (lv_at hl 5 rfl) ?_
    refine ft_csi (r := ftAt 460 v (nI y)) (va_runSN (As := [.ref va, .int (nI y)]) (rest := [.int (v (x - 1)), .int (nI k), .ref r2]) ⟨hx, hb, hml, hown, hts⟩ (c_X10_at l D cI cS va 460 v (nI y) (by first | assumption | omega)) ⟨va_cnB 2 hts gX7_addEvent_X10_at_n40 rfl rfl rfl (hKK.2 _ (List.mem_of_getElem? (i := 22) rfl)) (hts (.initialized RX10) (by decide +kernel)) (by decide +kernel) ⟨Nat.le_of_ble_eq_true rfl, Nat.le_of_ble_eq_true rfl⟩, hts (.static yX10_at) (by decide +kernel), trivial⟩ (ft_preRO hP hKK [9] rfl) rfl rfl hl.1 rfl (lv_room (Nat.le_of_ble_eq_true rfl)) dX7_addEvent_71 ⟨Nat.le_of_ble_eq_true rfl, Nat.le_of_ble_eq_true rfl⟩) ?_
    refine ft_top (y := v y) (ftAt_N (by omega) (by omega)) ?_
    refine lv_isub hx hb dX7_addEvent_74 ?_
    refine ft_cv (wc := [(r2, .inl (cI, 30, .inl (ro 2)))]) (wr := [(a0, .inr (7, [.ref r0, .ref r1, .ref r2, .ref r3, .ref r4, .ref r5, .ref r6, .ref r7, .int (nI k), .int tl])), (r0, .inl (cI, 30, .inl (upd (ro 0) k (nI x)))), (r1, .inl (cI, 30, .inl (upd (ro 1) k (nI y)))), (r3, .inl (cI, 30, .inl (ro 3))), (r4, .inl (cI, 30, .inl (ro 4))), (r5, .inl (cI, 30, .inl (ro 5))), (r6, .inl (cI, 30, .inl (ro 6))), (r7, .inl (cI, 30, .inl (ro 7))), (va, .inl (cI, 460, .inl v))]) (w1 := [(r2, .inl (cI, 30, .inl (ftPut 30 (ro 2) (nI k) ((v (x - 1)) - (v y)))))]) (ws1 := [(a0, .inr (7, [.ref r0, .ref r1, .ref r2, .ref r3, .ref r4, .ref r5, .ref r6, .ref r7, .int (nI k), .int tl])), (r0, .inl (cI, 30, .inl (upd (ro 0) k (nI x)))), (r1, .inl (cI, 30, .inl (upd (ro 1) k (nI y)))), (r2, .inl (cI, 30, .inl (ftPut 30 (ro 2) (nI k) ((v (x - 1)) - (v y))))), (r3, .inl (cI, 30, .inl (ro 3))), (r4, .inl (cI, 30, .inl (ro 4))), (r5, .inl (cI, 30, .inl (ro 5))), (r6, .inl (cI, 30, .inl (ro 6))), (r7, .inl (cI, 30, .inl (ro 7))), (va, .inl (cI, 460, .inl v))]) (va_runSN (As := [.ref r2, .int (nI k), .int ((v (x - 1)) - (v y))]) (rest := []) ⟨hx, hb, hml, hown, hts⟩ (c_X10_put l D cI cS H.size r2 30 (ro 2) (nI k) ((v (x - 1)) - (v y)) (by first | assumption | omega)) ⟨va_cnB 3 hts gX7_addEvent_X10_put_n55 rfl rfl rfl (hKK.2 _ (List.mem_of_getElem? (i := 23) rfl)) (hts (.initialized RX10) (by decide +kernel)) (by decide +kernel) ⟨Nat.le_of_ble_eq_true rfl, Nat.le_of_ble_eq_true rfl⟩, hts (.static yX10_put) (by decide +kernel), trivial⟩ (ft_preRW hP hD hKK [3] rfl rfl rfl) rfl rfl hl.1 rfl (lv_room (Nat.le_of_ble_eq_true rfl)) dX7_addEvent_75 ⟨Nat.le_of_ble_eq_true rfl, Nat.le_of_ble_eq_true rfl⟩) hP hD hS hA [3] [0, 1, 2, 4, 5, 6, 7, 8, 9] [0, 1, 2, 9, 3, 4, 5, 6, 7, 8] rfl rfl (by decide) (by decide) (by decide) rfl rfl (fun H locs hP hD hS => ?_)
    rw [ftPut_N (k := k) (by omega) (by omega)] at hP hD
    have hP : va_P D vwCl [(a0, .inr (7, [.ref r0, .ref r1, .ref r2, .ref r3, .ref r4, .ref r5, .ref r6, .ref r7, .int (nI k), .int tl])), (r0, .inl (cI, 30, .inl (upd (ro 0) k (nI x)))), (r1, .inl (cI, 30, .inl (upd (ro 1) k (nI y)))), (r2, .inl (cI, 30, .inl (upd (ro 2) k ((v (x - 1)) - (v y))))), (r3, .inl (cI, 30, .inl (ro 3))), (r4, .inl (cI, 30, .inl (ro 4))), (r5, .inl (cI, 30, .inl (ro 5))), (r6, .inl (cI, 30, .inl (ro 6))), (r7, .inl (cI, 30, .inl (ro 7))), (va, .inl (cI, 460, .inl v))] H := hP
    have hD : va_D A [(a0, .inr (7, [.ref r0, .ref r1, .ref r2, .ref r3, .ref r4, .ref r5, .ref r6, .ref r7, .int (nI k), .int tl])), (r0, .inl (cI, 30, .inl (upd (ro 0) k (nI x)))), (r1, .inl (cI, 30, .inl (upd (ro 1) k (nI y)))), (r2, .inl (cI, 30, .inl (upd (ro 2) k ((v (x - 1)) - (v y))))), (r3, .inl (cI, 30, .inl (ro 3))), (r4, .inl (cI, 30, .inl (ro 4))), (r5, .inl (cI, 30, .inl (ro 5))), (r6, .inl (cI, 30, .inl (ro 6))), (r7, .inl (cI, 30, .inl (ro 7))), (va, .inl (cI, 460, .inl v))] := hD
    refine lv_aload_n hx hb dX7_addEvent_78 rfl (lv_at hl 2 rfl) ?_
    refine va_get (D := D) (ci := 7) (v := .ref r3) (C := RX7) (T := TX7) (N := 10) hx hb hts (by decide +kernel) hown hK hP 0 rfl rfl 3 (by decide) (hts (.fieldLink RX7 21 "FiberTrace$Reading" "heights" "[I") (by decide +kernel)) (fun _ h9 => h9) rfl dX7_addEvent_79 ?_
    refine lv_aload_n hx hb dX7_addEvent_82 rfl (lv_at hl 2 rfl) ?_
    refine va_get (D := D) (ci := 7) (v := .int (nI k)) (C := RX7) (T := TX7) (N := 10) hx hb hts (by decide +kernel) hown hK hP 0 rfl rfl 8 (by decide) (hts (.fieldLink RX7 36 "FiberTrace$Reading" "size" "I") (by decide +kernel)) (fun _ h9 => h9) rfl dX7_addEvent_83 ?_
    refine lv_iload hx hb dX7_addEvent_86 (lv_at hl 6 rfl) ?_
    refine lv_if_eq (tgt := 103) hx hb dX7_addEvent_88 (by decide) (fun c88 => ?_) (fun c88 => ?_)
    · refine lv_iconst (v := 0) hx hb dX7_addEvent_103 (by decide) ?_
      refine ft_cv (wc := [(r3, .inl (cI, 30, .inl (ro 3)))]) (wr := [(a0, .inr (7, [.ref r0, .ref r1, .ref r2, .ref r3, .ref r4, .ref r5, .ref r6, .ref r7, .int (nI k), .int tl])), (r0, .inl (cI, 30, .inl (upd (ro 0) k (nI x)))), (r1, .inl (cI, 30, .inl (upd (ro 1) k (nI y)))), (r2, .inl (cI, 30, .inl (upd (ro 2) k ((v (x - 1)) - (v y))))), (r4, .inl (cI, 30, .inl (ro 4))), (r5, .inl (cI, 30, .inl (ro 5))), (r6, .inl (cI, 30, .inl (ro 6))), (r7, .inl (cI, 30, .inl (ro 7))), (va, .inl (cI, 460, .inl v))]) (w1 := [(r3, .inl (cI, 30, .inl (ftPut 30 (ro 3) (nI k) 0)))]) (ws1 := [(a0, .inr (7, [.ref r0, .ref r1, .ref r2, .ref r3, .ref r4, .ref r5, .ref r6, .ref r7, .int (nI k), .int tl])), (r0, .inl (cI, 30, .inl (upd (ro 0) k (nI x)))), (r1, .inl (cI, 30, .inl (upd (ro 1) k (nI y)))), (r2, .inl (cI, 30, .inl (upd (ro 2) k ((v (x - 1)) - (v y))))), (r3, .inl (cI, 30, .inl (ftPut 30 (ro 3) (nI k) 0))), (r4, .inl (cI, 30, .inl (ro 4))), (r5, .inl (cI, 30, .inl (ro 5))), (r6, .inl (cI, 30, .inl (ro 6))), (r7, .inl (cI, 30, .inl (ro 7))), (va, .inl (cI, 460, .inl v))]) (va_runSN (As := [.ref r3, .int (nI k), .int 0]) (rest := []) ⟨hx, hb, hml, hown, hts⟩ (c_X10_put l D cI cS H.size r3 30 (ro 3) (nI k) 0 (by first | assumption | omega)) ⟨va_cnB 3 hts gX7_addEvent_X10_put_n55 rfl rfl rfl (hKK.2 _ (List.mem_of_getElem? (i := 23) rfl)) (hts (.initialized RX10) (by decide +kernel)) (by decide +kernel) ⟨Nat.le_of_ble_eq_true rfl, Nat.le_of_ble_eq_true rfl⟩, hts (.static yX10_put) (by decide +kernel), trivial⟩ (ft_preRW hP hD hKK [4] rfl rfl rfl) rfl rfl hl.1 rfl (lv_room (Nat.le_of_ble_eq_true rfl)) dX7_addEvent_104 ⟨Nat.le_of_ble_eq_true rfl, Nat.le_of_ble_eq_true rfl⟩) hP hD hS hA [4] [0, 1, 2, 3, 5, 6, 7, 8, 9] [0, 1, 2, 3, 9, 4, 5, 6, 7, 8] rfl rfl (by decide) (by decide) (by decide) rfl rfl (fun H locs hP hD hS => ?_)
      rw [ftPut_N (k := k) (by omega) (by omega)] at hP hD
      have hP : va_P D vwCl [(a0, .inr (7, [.ref r0, .ref r1, .ref r2, .ref r3, .ref r4, .ref r5, .ref r6, .ref r7, .int (nI k), .int tl])), (r0, .inl (cI, 30, .inl (upd (ro 0) k (nI x)))), (r1, .inl (cI, 30, .inl (upd (ro 1) k (nI y)))), (r2, .inl (cI, 30, .inl (upd (ro 2) k ((v (x - 1)) - (v y))))), (r3, .inl (cI, 30, .inl (upd (ro 3) k 0))), (r4, .inl (cI, 30, .inl (ro 4))), (r5, .inl (cI, 30, .inl (ro 5))), (r6, .inl (cI, 30, .inl (ro 6))), (r7, .inl (cI, 30, .inl (ro 7))), (va, .inl (cI, 460, .inl v))] H := hP
      have hD : va_D A [(a0, .inr (7, [.ref r0, .ref r1, .ref r2, .ref r3, .ref r4, .ref r5, .ref r6, .ref r7, .int (nI k), .int tl])), (r0, .inl (cI, 30, .inl (upd (ro 0) k (nI x)))), (r1, .inl (cI, 30, .inl (upd (ro 1) k (nI y)))), (r2, .inl (cI, 30, .inl (upd (ro 2) k ((v (x - 1)) - (v y))))), (r3, .inl (cI, 30, .inl (upd (ro 3) k 0))), (r4, .inl (cI, 30, .inl (ro 4))), (r5, .inl (cI, 30, .inl (ro 5))), (r6, .inl (cI, 30, .inl (ro 6))), (r7, .inl (cI, 30, .inl (ro 7))), (va, .inl (cI, 460, .inl v))] := hD
      refine lv_aload_n hx hb dX7_addEvent_107 rfl (lv_at hl 2 rfl) ?_
      refine va_get (D := D) (ci := 7) (v := .ref r4) (C := RX7) (T := TX7) (N := 10) hx hb hts (by decide +kernel) hown hK hP 0 rfl rfl 4 (by decide) (hts (.fieldLink RX7 24 "FiberTrace$Reading" "kinds" "[I") (by decide +kernel)) (fun _ h9 => h9) rfl dX7_addEvent_108 ?_
      refine lv_aload_n hx hb dX7_addEvent_111 rfl (lv_at hl 2 rfl) ?_
      refine va_get (D := D) (ci := 7) (v := .int (nI k)) (C := RX7) (T := TX7) (N := 10) hx hb hts (by decide +kernel) hown hK hP 0 rfl rfl 8 (by decide) (hts (.fieldLink RX7 36 "FiberTrace$Reading" "size" "I") (by decide +kernel)) (fun _ h9 => h9) rfl dX7_addEvent_112 ?_
      refine lv_iload hx hb dX7_addEvent_115 (lv_at hl 6 rfl) ?_
      refine lv_if_eq (tgt := 124) hx hb dX7_addEvent_117 (by decide) (fun c117 => ?_) (fun c117 => ?_)
      · refine lv_iconst (v := 0) hx hb dX7_addEvent_124 (by decide) ?_
        refine ft_cv (wc := [(r4, .inl (cI, 30, .inl (ro 4)))]) (wr := [(a0, .inr (7, [.ref r0, .ref r1, .ref r2, .ref r3, .ref r4, .ref r5, .ref r6, .ref r7, .int (nI k), .int tl])), (r0, .inl (cI, 30, .inl (upd (ro 0) k (nI x)))), (r1, .inl (cI, 30, .inl (upd (ro 1) k (nI y)))), (r2, .inl (cI, 30, .inl (upd (ro 2) k ((v (x - 1)) - (v y))))), (r3, .inl (cI, 30, .inl (upd (ro 3) k 0))), (r5, .inl (cI, 30, .inl (ro 5))), (r6, .inl (cI, 30, .inl (ro 6))), (r7, .inl (cI, 30, .inl (ro 7))), (va, .inl (cI, 460, .inl v))]) (w1 := [(r4, .inl (cI, 30, .inl (ftPut 30 (ro 4) (nI k) 0)))]) (ws1 := [(a0, .inr (7, [.ref r0, .ref r1, .ref r2, .ref r3, .ref r4, .ref r5, .ref r6, .ref r7, .int (nI k), .int tl])), (r0, .inl (cI, 30, .inl (upd (ro 0) k (nI x)))), (r1, .inl (cI, 30, .inl (upd (ro 1) k (nI y)))), (r2, .inl (cI, 30, .inl (upd (ro 2) k ((v (x - 1)) - (v y))))), (r3, .inl (cI, 30, .inl (upd (ro 3) k 0))), (r4, .inl (cI, 30, .inl (ftPut 30 (ro 4) (nI k) 0))), (r5, .inl (cI, 30, .inl (ro 5))), (r6, .inl (cI, 30, .inl (ro 6))), (r7, .inl (cI, 30, .inl (ro 7))), (va, .inl (cI, 460, .inl v))]) (va_runSN (As := [.ref r4, .int (nI k), .int 0]) (rest := []) ⟨hx, hb, hml, hown, hts⟩ (c_X10_put l D cI cS H.size r4 30 (ro 4) (nI k) 0 (by first | assumption | omega)) ⟨va_cnB 3 hts gX7_addEvent_X10_put_n55 rfl rfl rfl (hKK.2 _ (List.mem_of_getElem? (i := 23) rfl)) (hts (.initialized RX10) (by decide +kernel)) (by decide +kernel) ⟨Nat.le_of_ble_eq_true rfl, Nat.le_of_ble_eq_true rfl⟩, hts (.static yX10_put) (by decide +kernel), trivial⟩ (ft_preRW hP hD hKK [5] rfl rfl rfl) rfl rfl hl.1 rfl (lv_room (Nat.le_of_ble_eq_true rfl)) dX7_addEvent_125 ⟨Nat.le_of_ble_eq_true rfl, Nat.le_of_ble_eq_true rfl⟩) hP hD hS hA [5] [0, 1, 2, 3, 4, 6, 7, 8, 9] [0, 1, 2, 3, 4, 9, 5, 6, 7, 8] rfl rfl (by decide) (by decide) (by decide) rfl rfl (fun H locs hP hD hS => ?_)
        rw [ftPut_N (k := k) (by omega) (by omega)] at hP hD
        have hP : va_P D vwCl [(a0, .inr (7, [.ref r0, .ref r1, .ref r2, .ref r3, .ref r4, .ref r5, .ref r6, .ref r7, .int (nI k), .int tl])), (r0, .inl (cI, 30, .inl (upd (ro 0) k (nI x)))), (r1, .inl (cI, 30, .inl (upd (ro 1) k (nI y)))), (r2, .inl (cI, 30, .inl (upd (ro 2) k ((v (x - 1)) - (v y))))), (r3, .inl (cI, 30, .inl (upd (ro 3) k 0))), (r4, .inl (cI, 30, .inl (upd (ro 4) k 0))), (r5, .inl (cI, 30, .inl (ro 5))), (r6, .inl (cI, 30, .inl (ro 6))), (r7, .inl (cI, 30, .inl (ro 7))), (va, .inl (cI, 460, .inl v))] H := hP
        have hD : va_D A [(a0, .inr (7, [.ref r0, .ref r1, .ref r2, .ref r3, .ref r4, .ref r5, .ref r6, .ref r7, .int (nI k), .int tl])), (r0, .inl (cI, 30, .inl (upd (ro 0) k (nI x)))), (r1, .inl (cI, 30, .inl (upd (ro 1) k (nI y)))), (r2, .inl (cI, 30, .inl (upd (ro 2) k ((v (x - 1)) - (v y))))), (r3, .inl (cI, 30, .inl (upd (ro 3) k 0))), (r4, .inl (cI, 30, .inl (upd (ro 4) k 0))), (r5, .inl (cI, 30, .inl (ro 5))), (r6, .inl (cI, 30, .inl (ro 6))), (r7, .inl (cI, 30, .inl (ro 7))), (va, .inl (cI, 460, .inl v))] := hD
        refine lv_aload_n hx hb dX7_addEvent_128 rfl (lv_at hl 2 rfl) ?_
        refine va_get (D := D) (ci := 7) (v := .ref r5) (C := RX7) (T := TX7) (N := 10) hx hb hts (by decide +kernel) hown hK hP 0 rfl rfl 5 (by decide) (hts (.fieldLink RX7 27 "FiberTrace$Reading" "sectionLosses" "[I") (by decide +kernel)) (fun _ h9 => h9) rfl dX7_addEvent_129 ?_
        refine lv_aload_n hx hb dX7_addEvent_132 rfl (lv_at hl 2 rfl) ?_
        refine va_get (D := D) (ci := 7) (v := .int (nI k)) (C := RX7) (T := TX7) (N := 10) hx hb hts (by decide +kernel) hown hK hP 0 rfl rfl 8 (by decide) (hts (.fieldLink RX7 36 "FiberTrace$Reading" "size" "I") (by decide +kernel)) (fun _ h9 => h9) rfl dX7_addEvent_133 ?_
        refine lv_aload_n hx hb dX7_addEvent_136 rfl (lv_at hl 3 rfl) ?_
        refine lv_iload hx hb dX7_addEvent_137 (lv_at hl 0 rfl) ?_
        refine ft_csi (r := ftAt 460 v 0) (va_runSN (As := [.ref va, .int 0]) (rest := [.int (nI k), .ref r5]) ⟨hx, hb, hml, hown, hts⟩ (c_X10_at l D cI cS va 460 v 0 (by first | assumption | omega)) ⟨va_cnB 2 hts gX7_addEvent_X10_at_n40 rfl rfl rfl (hKK.2 _ (List.mem_of_getElem? (i := 22) rfl)) (hts (.initialized RX10) (by decide +kernel)) (by decide +kernel) ⟨Nat.le_of_ble_eq_true rfl, Nat.le_of_ble_eq_true rfl⟩, hts (.static yX10_at) (by decide +kernel), trivial⟩ (ft_preRO hP hKK [9] rfl) rfl rfl hl.1 rfl (lv_room (Nat.le_of_ble_eq_true rfl)) dX7_addEvent_139 ⟨Nat.le_of_ble_eq_true rfl, Nat.le_of_ble_eq_true rfl⟩) ?_
        refine ft_top (y := v 0) (ftAt_N (k := 0) (by omega) (by omega)) ?_
        refine lv_iload hx hb dX7_addEvent_142 (lv_at hl 1 rfl) ?_
        refine lv_isub hx hb dX7_addEvent_144 ?_
        refine ft_cv (wc := [(r5, .inl (cI, 30, .inl (ro 5)))]) (wr := [(a0, .inr (7, [.ref r0, .ref r1, .ref r2, .ref r3, .ref r4, .ref r5, .ref r6, .ref r7, .int (nI k), .int tl])), (r0, .inl (cI, 30, .inl (upd (ro 0) k (nI x)))), (r1, .inl (cI, 30, .inl (upd (ro 1) k (nI y)))), (r2, .inl (cI, 30, .inl (upd (ro 2) k ((v (x - 1)) - (v y))))), (r3, .inl (cI, 30, .inl (upd (ro 3) k 0))), (r4, .inl (cI, 30, .inl (upd (ro 4) k 0))), (r6, .inl (cI, 30, .inl (ro 6))), (r7, .inl (cI, 30, .inl (ro 7))), (va, .inl (cI, 460, .inl v))]) (w1 := [(r5, .inl (cI, 30, .inl (ftPut 30 (ro 5) (nI k) ((v 0) - (v (x - 1))))))]) (ws1 := [(a0, .inr (7, [.ref r0, .ref r1, .ref r2, .ref r3, .ref r4, .ref r5, .ref r6, .ref r7, .int (nI k), .int tl])), (r0, .inl (cI, 30, .inl (upd (ro 0) k (nI x)))), (r1, .inl (cI, 30, .inl (upd (ro 1) k (nI y)))), (r2, .inl (cI, 30, .inl (upd (ro 2) k ((v (x - 1)) - (v y))))), (r3, .inl (cI, 30, .inl (upd (ro 3) k 0))), (r4, .inl (cI, 30, .inl (upd (ro 4) k 0))), (r5, .inl (cI, 30, .inl (ftPut 30 (ro 5) (nI k) ((v 0) - (v (x - 1)))))), (r6, .inl (cI, 30, .inl (ro 6))), (r7, .inl (cI, 30, .inl (ro 7))), (va, .inl (cI, 460, .inl v))]) (va_runSN (As := [.ref r5, .int (nI k), .int ((v 0) - (v (x - 1)))]) (rest := []) ⟨hx, hb, hml, hown, hts⟩ (c_X10_put l D cI cS H.size r5 30 (ro 5) (nI k) ((v 0) - (v (x - 1))) (by first | assumption | omega)) ⟨va_cnB 3 hts gX7_addEvent_X10_put_n55 rfl rfl rfl (hKK.2 _ (List.mem_of_getElem? (i := 23) rfl)) (hts (.initialized RX10) (by decide +kernel)) (by decide +kernel) ⟨Nat.le_of_ble_eq_true rfl, Nat.le_of_ble_eq_true rfl⟩, hts (.static yX10_put) (by decide +kernel), trivial⟩ (ft_preRW hP hD hKK [6] rfl rfl rfl) rfl rfl hl.1 rfl (lv_room (Nat.le_of_ble_eq_true rfl)) dX7_addEvent_145 ⟨Nat.le_of_ble_eq_true rfl, Nat.le_of_ble_eq_true rfl⟩) hP hD hS hA [6] [0, 1, 2, 3, 4, 5, 7, 8, 9] [0, 1, 2, 3, 4, 5, 9, 6, 7, 8] rfl rfl (by decide) (by decide) (by decide) rfl rfl (fun H locs hP hD hS => ?_)
        rw [ftPut_N (k := k) (by omega) (by omega)] at hP hD
        have hP : va_P D vwCl [(a0, .inr (7, [.ref r0, .ref r1, .ref r2, .ref r3, .ref r4, .ref r5, .ref r6, .ref r7, .int (nI k), .int tl])), (r0, .inl (cI, 30, .inl (upd (ro 0) k (nI x)))), (r1, .inl (cI, 30, .inl (upd (ro 1) k (nI y)))), (r2, .inl (cI, 30, .inl (upd (ro 2) k ((v (x - 1)) - (v y))))), (r3, .inl (cI, 30, .inl (upd (ro 3) k 0))), (r4, .inl (cI, 30, .inl (upd (ro 4) k 0))), (r5, .inl (cI, 30, .inl (upd (ro 5) k ((v 0) - (v (x - 1)))))), (r6, .inl (cI, 30, .inl (ro 6))), (r7, .inl (cI, 30, .inl (ro 7))), (va, .inl (cI, 460, .inl v))] H := hP
        have hD : va_D A [(a0, .inr (7, [.ref r0, .ref r1, .ref r2, .ref r3, .ref r4, .ref r5, .ref r6, .ref r7, .int (nI k), .int tl])), (r0, .inl (cI, 30, .inl (upd (ro 0) k (nI x)))), (r1, .inl (cI, 30, .inl (upd (ro 1) k (nI y)))), (r2, .inl (cI, 30, .inl (upd (ro 2) k ((v (x - 1)) - (v y))))), (r3, .inl (cI, 30, .inl (upd (ro 3) k 0))), (r4, .inl (cI, 30, .inl (upd (ro 4) k 0))), (r5, .inl (cI, 30, .inl (upd (ro 5) k ((v 0) - (v (x - 1)))))), (r6, .inl (cI, 30, .inl (ro 6))), (r7, .inl (cI, 30, .inl (ro 7))), (va, .inl (cI, 460, .inl v))] := hD
        refine lv_aload_n hx hb dX7_addEvent_148 rfl (lv_at hl 2 rfl) ?_
        refine va_get (D := D) (ci := 7) (v := .ref r6) (C := RX7) (T := TX7) (N := 10) hx hb hts (by decide +kernel) hown hK hP 0 rfl rfl 6 (by decide) (hts (.fieldLink RX7 30 "FiberTrace$Reading" "firstMakers" "[I") (by decide +kernel)) (fun _ h9 => h9) rfl dX7_addEvent_149 ?_
        refine lv_aload_n hx hb dX7_addEvent_152 rfl (lv_at hl 2 rfl) ?_
        refine va_get (D := D) (ci := 7) (v := .int (nI k)) (C := RX7) (T := TX7) (N := 10) hx hb hts (by decide +kernel) hown hK hP 0 rfl rfl 8 (by decide) (hts (.fieldLink RX7 36 "FiberTrace$Reading" "size" "I") (by decide +kernel)) (fun _ h9 => h9) rfl dX7_addEvent_153 ?_
        refine lv_iconst (v := (-1)) hx hb dX7_addEvent_156 (by decide) ?_
        refine ft_cv (wc := [(r6, .inl (cI, 30, .inl (ro 6)))]) (wr := [(a0, .inr (7, [.ref r0, .ref r1, .ref r2, .ref r3, .ref r4, .ref r5, .ref r6, .ref r7, .int (nI k), .int tl])), (r0, .inl (cI, 30, .inl (upd (ro 0) k (nI x)))), (r1, .inl (cI, 30, .inl (upd (ro 1) k (nI y)))), (r2, .inl (cI, 30, .inl (upd (ro 2) k ((v (x - 1)) - (v y))))), (r3, .inl (cI, 30, .inl (upd (ro 3) k 0))), (r4, .inl (cI, 30, .inl (upd (ro 4) k 0))), (r5, .inl (cI, 30, .inl (upd (ro 5) k ((v 0) - (v (x - 1)))))), (r7, .inl (cI, 30, .inl (ro 7))), (va, .inl (cI, 460, .inl v))]) (w1 := [(r6, .inl (cI, 30, .inl (ftPut 30 (ro 6) (nI k) (-1))))]) (ws1 := [(a0, .inr (7, [.ref r0, .ref r1, .ref r2, .ref r3, .ref r4, .ref r5, .ref r6, .ref r7, .int (nI k), .int tl])), (r0, .inl (cI, 30, .inl (upd (ro 0) k (nI x)))), (r1, .inl (cI, 30, .inl (upd (ro 1) k (nI y)))), (r2, .inl (cI, 30, .inl (upd (ro 2) k ((v (x - 1)) - (v y))))), (r3, .inl (cI, 30, .inl (upd (ro 3) k 0))), (r4, .inl (cI, 30, .inl (upd (ro 4) k 0))), (r5, .inl (cI, 30, .inl (upd (ro 5) k ((v 0) - (v (x - 1)))))), (r6, .inl (cI, 30, .inl (ftPut 30 (ro 6) (nI k) (-1)))), (r7, .inl (cI, 30, .inl (ro 7))), (va, .inl (cI, 460, .inl v))]) (va_runSN (As := [.ref r6, .int (nI k), .int (-1)]) (rest := []) ⟨hx, hb, hml, hown, hts⟩ (c_X10_put l D cI cS H.size r6 30 (ro 6) (nI k) (-1) (by first | assumption | omega)) ⟨va_cnB 3 hts gX7_addEvent_X10_put_n55 rfl rfl rfl (hKK.2 _ (List.mem_of_getElem? (i := 23) rfl)) (hts (.initialized RX10) (by decide +kernel)) (by decide +kernel) ⟨Nat.le_of_ble_eq_true rfl, Nat.le_of_ble_eq_true rfl⟩, hts (.static yX10_put) (by decide +kernel), trivial⟩ (ft_preRW hP hD hKK [7] rfl rfl rfl) rfl rfl hl.1 rfl (lv_room (Nat.le_of_ble_eq_true rfl)) dX7_addEvent_157 ⟨Nat.le_of_ble_eq_true rfl, Nat.le_of_ble_eq_true rfl⟩) hP hD hS hA [7] [0, 1, 2, 3, 4, 5, 6, 8, 9] [0, 1, 2, 3, 4, 5, 6, 9, 7, 8] rfl rfl (by decide) (by decide) (by decide) rfl rfl (fun H locs hP hD hS => ?_)
        rw [ftPut_N (k := k) (by omega) (by omega)] at hP hD
        have hP : va_P D vwCl [(a0, .inr (7, [.ref r0, .ref r1, .ref r2, .ref r3, .ref r4, .ref r5, .ref r6, .ref r7, .int (nI k), .int tl])), (r0, .inl (cI, 30, .inl (upd (ro 0) k (nI x)))), (r1, .inl (cI, 30, .inl (upd (ro 1) k (nI y)))), (r2, .inl (cI, 30, .inl (upd (ro 2) k ((v (x - 1)) - (v y))))), (r3, .inl (cI, 30, .inl (upd (ro 3) k 0))), (r4, .inl (cI, 30, .inl (upd (ro 4) k 0))), (r5, .inl (cI, 30, .inl (upd (ro 5) k ((v 0) - (v (x - 1)))))), (r6, .inl (cI, 30, .inl (upd (ro 6) k (-1)))), (r7, .inl (cI, 30, .inl (ro 7))), (va, .inl (cI, 460, .inl v))] H := hP
        have hD : va_D A [(a0, .inr (7, [.ref r0, .ref r1, .ref r2, .ref r3, .ref r4, .ref r5, .ref r6, .ref r7, .int (nI k), .int tl])), (r0, .inl (cI, 30, .inl (upd (ro 0) k (nI x)))), (r1, .inl (cI, 30, .inl (upd (ro 1) k (nI y)))), (r2, .inl (cI, 30, .inl (upd (ro 2) k ((v (x - 1)) - (v y))))), (r3, .inl (cI, 30, .inl (upd (ro 3) k 0))), (r4, .inl (cI, 30, .inl (upd (ro 4) k 0))), (r5, .inl (cI, 30, .inl (upd (ro 5) k ((v 0) - (v (x - 1)))))), (r6, .inl (cI, 30, .inl (upd (ro 6) k (-1)))), (r7, .inl (cI, 30, .inl (ro 7))), (va, .inl (cI, 460, .inl v))] := hD
        refine lv_aload_n hx hb dX7_addEvent_160 rfl (lv_at hl 2 rfl) ?_
        refine va_get (D := D) (ci := 7) (v := .ref r7) (C := RX7) (T := TX7) (N := 10) hx hb hts (by decide +kernel) hown hK hP 0 rfl rfl 7 (by decide) (hts (.fieldLink RX7 33 "FiberTrace$Reading" "secondMakers" "[I") (by decide +kernel)) (fun _ h9 => h9) rfl dX7_addEvent_161 ?_
        refine lv_aload_n hx hb dX7_addEvent_164 rfl (lv_at hl 2 rfl) ?_
        refine va_get (D := D) (ci := 7) (v := .int (nI k)) (C := RX7) (T := TX7) (N := 10) hx hb hts (by decide +kernel) hown hK hP 0 rfl rfl 8 (by decide) (hts (.fieldLink RX7 36 "FiberTrace$Reading" "size" "I") (by decide +kernel)) (fun _ h9 => h9) rfl dX7_addEvent_165 ?_
        refine lv_iconst (v := (-1)) hx hb dX7_addEvent_168 (by decide) ?_
        refine ft_cv (wc := [(r7, .inl (cI, 30, .inl (ro 7)))]) (wr := [(a0, .inr (7, [.ref r0, .ref r1, .ref r2, .ref r3, .ref r4, .ref r5, .ref r6, .ref r7, .int (nI k), .int tl])), (r0, .inl (cI, 30, .inl (upd (ro 0) k (nI x)))), (r1, .inl (cI, 30, .inl (upd (ro 1) k (nI y)))), (r2, .inl (cI, 30, .inl (upd (ro 2) k ((v (x - 1)) - (v y))))), (r3, .inl (cI, 30, .inl (upd (ro 3) k 0))), (r4, .inl (cI, 30, .inl (upd (ro 4) k 0))), (r5, .inl (cI, 30, .inl (upd (ro 5) k ((v 0) - (v (x - 1)))))), (r6, .inl (cI, 30, .inl (upd (ro 6) k (-1)))), (va, .inl (cI, 460, .inl v))]) (w1 := [(r7, .inl (cI, 30, .inl (ftPut 30 (ro 7) (nI k) (-1))))]) (ws1 := [(a0, .inr (7, [.ref r0, .ref r1, .ref r2, .ref r3, .ref r4, .ref r5, .ref r6, .ref r7, .int (nI k), .int tl])), (r0, .inl (cI, 30, .inl (upd (ro 0) k (nI x)))), (r1, .inl (cI, 30, .inl (upd (ro 1) k (nI y)))), (r2, .inl (cI, 30, .inl (upd (ro 2) k ((v (x - 1)) - (v y))))), (r3, .inl (cI, 30, .inl (upd (ro 3) k 0))), (r4, .inl (cI, 30, .inl (upd (ro 4) k 0))), (r5, .inl (cI, 30, .inl (upd (ro 5) k ((v 0) - (v (x - 1)))))), (r6, .inl (cI, 30, .inl (upd (ro 6) k (-1)))), (r7, .inl (cI, 30, .inl (ftPut 30 (ro 7) (nI k) (-1)))), (va, .inl (cI, 460, .inl v))]) (va_runSN (As := [.ref r7, .int (nI k), .int (-1)]) (rest := []) ⟨hx, hb, hml, hown, hts⟩ (c_X10_put l D cI cS H.size r7 30 (ro 7) (nI k) (-1) (by first | assumption | omega)) ⟨va_cnB 3 hts gX7_addEvent_X10_put_n55 rfl rfl rfl (hKK.2 _ (List.mem_of_getElem? (i := 23) rfl)) (hts (.initialized RX10) (by decide +kernel)) (by decide +kernel) ⟨Nat.le_of_ble_eq_true rfl, Nat.le_of_ble_eq_true rfl⟩, hts (.static yX10_put) (by decide +kernel), trivial⟩ (ft_preRW hP hD hKK [8] rfl rfl rfl) rfl rfl hl.1 rfl (lv_room (Nat.le_of_ble_eq_true rfl)) dX7_addEvent_169 ⟨Nat.le_of_ble_eq_true rfl, Nat.le_of_ble_eq_true rfl⟩) hP hD hS hA [8] [0, 1, 2, 3, 4, 5, 6, 7, 9] [0, 1, 2, 3, 4, 5, 6, 7, 9, 8] rfl rfl (by decide) (by decide) (by decide) rfl rfl (fun H locs hP hD hS => ?_)
        rw [ftPut_N (k := k) (by omega) (by omega)] at hP hD
        have hP : va_P D vwCl [(a0, .inr (7, [.ref r0, .ref r1, .ref r2, .ref r3, .ref r4, .ref r5, .ref r6, .ref r7, .int (nI k), .int tl])), (r0, .inl (cI, 30, .inl (upd (ro 0) k (nI x)))), (r1, .inl (cI, 30, .inl (upd (ro 1) k (nI y)))), (r2, .inl (cI, 30, .inl (upd (ro 2) k ((v (x - 1)) - (v y))))), (r3, .inl (cI, 30, .inl (upd (ro 3) k 0))), (r4, .inl (cI, 30, .inl (upd (ro 4) k 0))), (r5, .inl (cI, 30, .inl (upd (ro 5) k ((v 0) - (v (x - 1)))))), (r6, .inl (cI, 30, .inl (upd (ro 6) k (-1)))), (r7, .inl (cI, 30, .inl (upd (ro 7) k (-1)))), (va, .inl (cI, 460, .inl v))] H := hP
        have hD : va_D A [(a0, .inr (7, [.ref r0, .ref r1, .ref r2, .ref r3, .ref r4, .ref r5, .ref r6, .ref r7, .int (nI k), .int tl])), (r0, .inl (cI, 30, .inl (upd (ro 0) k (nI x)))), (r1, .inl (cI, 30, .inl (upd (ro 1) k (nI y)))), (r2, .inl (cI, 30, .inl (upd (ro 2) k ((v (x - 1)) - (v y))))), (r3, .inl (cI, 30, .inl (upd (ro 3) k 0))), (r4, .inl (cI, 30, .inl (upd (ro 4) k 0))), (r5, .inl (cI, 30, .inl (upd (ro 5) k ((v 0) - (v (x - 1)))))), (r6, .inl (cI, 30, .inl (upd (ro 6) k (-1)))), (r7, .inl (cI, 30, .inl (upd (ro 7) k (-1)))), (va, .inl (cI, 460, .inl v))] := hD
        refine lv_aload_n hx hb dX7_addEvent_172 rfl (lv_at hl 2 rfl) ?_
        refine lv_dup hx hb dX7_addEvent_173 rfl ?_
        refine va_get (D := D) (ci := 7) (v := .int (nI k)) (C := RX7) (T := TX7) (N := 10) hx hb hts (by decide +kernel) hown hK hP 0 rfl rfl 8 (by decide) (hts (.fieldLink RX7 36 "FiberTrace$Reading" "size" "I") (by decide +kernel)) (fun _ h9 => h9) rfl dX7_addEvent_174 ?_
        refine lv_iconst (v := 1) hx hb dX7_addEvent_177 (by decide) ?_
        refine lv_iadd hx hb dX7_addEvent_178 ?_
        refine ft_top (y := nI (k + 1)) (ft_addN k 1) ?_
        refine va_put (D := D) (ci := 7) (v := .int (nI (k + 1))) (ty := .int) (C := RX7) (T := TX7) (N := 10) hx hb hts (by decide +kernel) tyX7 tyX7_ok nmX7 hown hK hP hD hS 0 rfl rfl 8 (by decide) (hts (.fieldLink RX7 36 "FiberTrace$Reading" "size" "I") (by decide +kernel)) (fun _ h9 => h9) rfl (by decide +kernel) rfl rfl (Nat.le_of_ble_eq_true rfl) dX7_addEvent_179 (fun H locs hP hD hS => ?_)
        have hP : va_P D vwCl [(a0, .inr (7, [.ref r0, .ref r1, .ref r2, .ref r3, .ref r4, .ref r5, .ref r6, .ref r7, .int (nI (k + 1)), .int tl])), (r0, .inl (cI, 30, .inl (upd (ro 0) k (nI x)))), (r1, .inl (cI, 30, .inl (upd (ro 1) k (nI y)))), (r2, .inl (cI, 30, .inl (upd (ro 2) k ((v (x - 1)) - (v y))))), (r3, .inl (cI, 30, .inl (upd (ro 3) k 0))), (r4, .inl (cI, 30, .inl (upd (ro 4) k 0))), (r5, .inl (cI, 30, .inl (upd (ro 5) k ((v 0) - (v (x - 1)))))), (r6, .inl (cI, 30, .inl (upd (ro 6) k (-1)))), (r7, .inl (cI, 30, .inl (upd (ro 7) k (-1)))), (va, .inl (cI, 460, .inl v))] H := hP
        have hD : va_D A [(a0, .inr (7, [.ref r0, .ref r1, .ref r2, .ref r3, .ref r4, .ref r5, .ref r6, .ref r7, .int (nI (k + 1)), .int tl])), (r0, .inl (cI, 30, .inl (upd (ro 0) k (nI x)))), (r1, .inl (cI, 30, .inl (upd (ro 1) k (nI y)))), (r2, .inl (cI, 30, .inl (upd (ro 2) k ((v (x - 1)) - (v y))))), (r3, .inl (cI, 30, .inl (upd (ro 3) k 0))), (r4, .inl (cI, 30, .inl (upd (ro 4) k 0))), (r5, .inl (cI, 30, .inl (upd (ro 5) k ((v 0) - (v (x - 1)))))), (r6, .inl (cI, 30, .inl (upd (ro 6) k (-1)))), (r7, .inl (cI, 30, .inl (upd (ro 7) k (-1)))), (va, .inl (cI, 460, .inl v))] := hD
        have hw9 : ([(a0, .inr (7, [.ref r0, .ref r1, .ref r2, .ref r3, .ref r4, .ref r5, .ref r6, .ref r7, .int (nI (k + 1)), .int tl])), (r0, .inl (cI, 30, .inl (upd (ro 0) k (nI x)))), (r1, .inl (cI, 30, .inl (upd (ro 1) k (nI y)))), (r2, .inl (cI, 30, .inl (upd (ro 2) k ((v (x - 1)) - (v y))))), (r3, .inl (cI, 30, .inl (upd (ro 3) k 0))), (r4, .inl (cI, 30, .inl (upd (ro 4) k 0))), (r5, .inl (cI, 30, .inl (upd (ro 5) k ((v 0) - (v (x - 1)))))), (r6, .inl (cI, 30, .inl (upd (ro 6) k (-1)))), (r7, .inl (cI, 30, .inl (upd (ro 7) k (-1)))), (va, .inl (cI, 460, .inl v))] : va_W) = [(a0, .inr (7, [.ref r0, .ref r1, .ref r2, .ref r3, .ref r4, .ref r5, .ref r6, .ref r7, .int (nI (k + 1)), .int tl])), (r0, .inl (cI, 30, .inl (upd (ro 0) k (ftEvV v x y (ftSb ro k) rb 0)))), (r1, .inl (cI, 30, .inl (upd (ro 1) k (ftEvV v x y (ftSb ro k) rb 1)))), (r2, .inl (cI, 30, .inl (upd (ro 2) k (ftEvV v x y (ftSb ro k) rb 2)))), (r3, .inl (cI, 30, .inl (upd (ro 3) k (ftEvV v x y (ftSb ro k) rb 3)))), (r4, .inl (cI, 30, .inl (upd (ro 4) k (ftEvV v x y (ftSb ro k) rb 4)))), (r5, .inl (cI, 30, .inl (upd (ro 5) k (ftEvV v x y (ftSb ro k) rb 5)))), (r6, .inl (cI, 30, .inl (upd (ro 6) k (ftEvV v x y (ftSb ro k) rb 6)))), (r7, .inl (cI, 30, .inl (upd (ro 7) k (ftEvV v x y (ftSb ro k) rb 7)))), (va, .inl (cI, 460, .inl v))] := by first | (simp only [ftEvV, hsb9, if_pos c88]; done) | (simp only [ftEvV, hsb9, if_neg c88]; done)
        rw [hw9] at hP hD
        exact W.vret hx hb hr (fun t ht hW => ⟨⟨(), rfl, trivial, by rw [ht]; exact hP, by rw [hAe]; exact hD⟩, by rw [hAe]; exact hS.F ht⟩) hS.2.2 dX7_addEvent_182
      · exact absurd c88 c117
    · refine lv_aload_n hx hb dX7_addEvent_91 rfl (lv_at hl 3 rfl) ?_
      refine lv_iload_n hx hb dX7_addEvent_92 rfl (lv_at hl 4 rfl) ?_
      refine lv_iload_n hx hb dX7_addEvent_93 rfl (lv_at hl 5 rfl) ?_
      refine ft_csi (r := ftGr v x (y - x)) (va_runS (As := [.ref va, .int (nI x), .int (nI y)]) (rest := [.int (nI k), .ref r3]) ⟨hx, hb, hml, hown, hts⟩ (c_X7_greatestOf l D cI cS va v x y hxy hy) (va_cwS 3 hts gX7_addEvent_X7_greatestOf rfl rfl rfl (by decide +kernel) ⟨Nat.le_of_ble_eq_true rfl, Nat.le_of_ble_eq_true rfl⟩) (ft_preRO hP hKK [9] rfl) rfl rfl hl.1 rfl (lv_room (Nat.le_of_ble_eq_true rfl)) dX7_addEvent_94 ⟨Nat.le_of_ble_eq_true rfl, Nat.le_of_ble_eq_true rfl⟩) ?_
      refine lv_iload hx hb dX7_addEvent_97 (lv_at hl 1 rfl) ?_
      refine lv_isub hx hb dX7_addEvent_99 ?_
      refine lv_goto (tgt := 104) hx hb dX7_addEvent_100 (by decide) ?_
      refine ft_cv (wc := [(r3, .inl (cI, 30, .inl (ro 3)))]) (wr := [(a0, .inr (7, [.ref r0, .ref r1, .ref r2, .ref r3, .ref r4, .ref r5, .ref r6, .ref r7, .int (nI k), .int tl])), (r0, .inl (cI, 30, .inl (upd (ro 0) k (nI x)))), (r1, .inl (cI, 30, .inl (upd (ro 1) k (nI y)))), (r2, .inl (cI, 30, .inl (upd (ro 2) k ((v (x - 1)) - (v y))))), (r4, .inl (cI, 30, .inl (ro 4))), (r5, .inl (cI, 30, .inl (ro 5))), (r6, .inl (cI, 30, .inl (ro 6))), (r7, .inl (cI, 30, .inl (ro 7))), (va, .inl (cI, 460, .inl v))]) (w1 := [(r3, .inl (cI, 30, .inl (ftPut 30 (ro 3) (nI k) ((ftGr v x (y - x)) - (v (x - 1))))))]) (ws1 := [(a0, .inr (7, [.ref r0, .ref r1, .ref r2, .ref r3, .ref r4, .ref r5, .ref r6, .ref r7, .int (nI k), .int tl])), (r0, .inl (cI, 30, .inl (upd (ro 0) k (nI x)))), (r1, .inl (cI, 30, .inl (upd (ro 1) k (nI y)))), (r2, .inl (cI, 30, .inl (upd (ro 2) k ((v (x - 1)) - (v y))))), (r3, .inl (cI, 30, .inl (ftPut 30 (ro 3) (nI k) ((ftGr v x (y - x)) - (v (x - 1)))))), (r4, .inl (cI, 30, .inl (ro 4))), (r5, .inl (cI, 30, .inl (ro 5))), (r6, .inl (cI, 30, .inl (ro 6))), (r7, .inl (cI, 30, .inl (ro 7))), (va, .inl (cI, 460, .inl v))]) (va_runSN (As := [.ref r3, .int (nI k), .int ((ftGr v x (y - x)) - (v (x - 1)))]) (rest := []) ⟨hx, hb, hml, hown, hts⟩ (c_X10_put l D cI cS H.size r3 30 (ro 3) (nI k) ((ftGr v x (y - x)) - (v (x - 1))) (by first | assumption | omega)) ⟨va_cnB 3 hts gX7_addEvent_X10_put_n55 rfl rfl rfl (hKK.2 _ (List.mem_of_getElem? (i := 23) rfl)) (hts (.initialized RX10) (by decide +kernel)) (by decide +kernel) ⟨Nat.le_of_ble_eq_true rfl, Nat.le_of_ble_eq_true rfl⟩, hts (.static yX10_put) (by decide +kernel), trivial⟩ (ft_preRW hP hD hKK [4] rfl rfl rfl) rfl rfl hl.1 rfl (lv_room (Nat.le_of_ble_eq_true rfl)) dX7_addEvent_104 ⟨Nat.le_of_ble_eq_true rfl, Nat.le_of_ble_eq_true rfl⟩) hP hD hS hA [4] [0, 1, 2, 3, 5, 6, 7, 8, 9] [0, 1, 2, 3, 9, 4, 5, 6, 7, 8] rfl rfl (by decide) (by decide) (by decide) rfl rfl (fun H locs hP hD hS => ?_)
      rw [ftPut_N (k := k) (by omega) (by omega)] at hP hD
      have hP : va_P D vwCl [(a0, .inr (7, [.ref r0, .ref r1, .ref r2, .ref r3, .ref r4, .ref r5, .ref r6, .ref r7, .int (nI k), .int tl])), (r0, .inl (cI, 30, .inl (upd (ro 0) k (nI x)))), (r1, .inl (cI, 30, .inl (upd (ro 1) k (nI y)))), (r2, .inl (cI, 30, .inl (upd (ro 2) k ((v (x - 1)) - (v y))))), (r3, .inl (cI, 30, .inl (upd (ro 3) k ((ftGr v x (y - x)) - (v (x - 1)))))), (r4, .inl (cI, 30, .inl (ro 4))), (r5, .inl (cI, 30, .inl (ro 5))), (r6, .inl (cI, 30, .inl (ro 6))), (r7, .inl (cI, 30, .inl (ro 7))), (va, .inl (cI, 460, .inl v))] H := hP
      have hD : va_D A [(a0, .inr (7, [.ref r0, .ref r1, .ref r2, .ref r3, .ref r4, .ref r5, .ref r6, .ref r7, .int (nI k), .int tl])), (r0, .inl (cI, 30, .inl (upd (ro 0) k (nI x)))), (r1, .inl (cI, 30, .inl (upd (ro 1) k (nI y)))), (r2, .inl (cI, 30, .inl (upd (ro 2) k ((v (x - 1)) - (v y))))), (r3, .inl (cI, 30, .inl (upd (ro 3) k ((ftGr v x (y - x)) - (v (x - 1)))))), (r4, .inl (cI, 30, .inl (ro 4))), (r5, .inl (cI, 30, .inl (ro 5))), (r6, .inl (cI, 30, .inl (ro 6))), (r7, .inl (cI, 30, .inl (ro 7))), (va, .inl (cI, 460, .inl v))] := hD
      refine lv_aload_n hx hb dX7_addEvent_107 rfl (lv_at hl 2 rfl) ?_
      refine va_get (D := D) (ci := 7) (v := .ref r4) (C := RX7) (T := TX7) (N := 10) hx hb hts (by decide +kernel) hown hK hP 0 rfl rfl 4 (by decide) (hts (.fieldLink RX7 24 "FiberTrace$Reading" "kinds" "[I") (by decide +kernel)) (fun _ h9 => h9) rfl dX7_addEvent_108 ?_
      refine lv_aload_n hx hb dX7_addEvent_111 rfl (lv_at hl 2 rfl) ?_
      refine va_get (D := D) (ci := 7) (v := .int (nI k)) (C := RX7) (T := TX7) (N := 10) hx hb hts (by decide +kernel) hown hK hP 0 rfl rfl 8 (by decide) (hts (.fieldLink RX7 36 "FiberTrace$Reading" "size" "I") (by decide +kernel)) (fun _ h9 => h9) rfl dX7_addEvent_112 ?_
      refine lv_iload hx hb dX7_addEvent_115 (lv_at hl 6 rfl) ?_
      refine lv_if_eq (tgt := 124) hx hb dX7_addEvent_117 (by decide) (fun c117 => ?_) (fun c117 => ?_)
      · exact absurd c117 c88
      · refine lv_iconst (v := 1) hx hb dX7_addEvent_120 (by decide) ?_
        refine lv_goto (tgt := 125) hx hb dX7_addEvent_121 (by decide) ?_
        refine ft_cv (wc := [(r4, .inl (cI, 30, .inl (ro 4)))]) (wr := [(a0, .inr (7, [.ref r0, .ref r1, .ref r2, .ref r3, .ref r4, .ref r5, .ref r6, .ref r7, .int (nI k), .int tl])), (r0, .inl (cI, 30, .inl (upd (ro 0) k (nI x)))), (r1, .inl (cI, 30, .inl (upd (ro 1) k (nI y)))), (r2, .inl (cI, 30, .inl (upd (ro 2) k ((v (x - 1)) - (v y))))), (r3, .inl (cI, 30, .inl (upd (ro 3) k ((ftGr v x (y - x)) - (v (x - 1)))))), (r5, .inl (cI, 30, .inl (ro 5))), (r6, .inl (cI, 30, .inl (ro 6))), (r7, .inl (cI, 30, .inl (ro 7))), (va, .inl (cI, 460, .inl v))]) (w1 := [(r4, .inl (cI, 30, .inl (ftPut 30 (ro 4) (nI k) 1)))]) (ws1 := [(a0, .inr (7, [.ref r0, .ref r1, .ref r2, .ref r3, .ref r4, .ref r5, .ref r6, .ref r7, .int (nI k), .int tl])), (r0, .inl (cI, 30, .inl (upd (ro 0) k (nI x)))), (r1, .inl (cI, 30, .inl (upd (ro 1) k (nI y)))), (r2, .inl (cI, 30, .inl (upd (ro 2) k ((v (x - 1)) - (v y))))), (r3, .inl (cI, 30, .inl (upd (ro 3) k ((ftGr v x (y - x)) - (v (x - 1)))))), (r4, .inl (cI, 30, .inl (ftPut 30 (ro 4) (nI k) 1))), (r5, .inl (cI, 30, .inl (ro 5))), (r6, .inl (cI, 30, .inl (ro 6))), (r7, .inl (cI, 30, .inl (ro 7))), (va, .inl (cI, 460, .inl v))]) (va_runSN (As := [.ref r4, .int (nI k), .int 1]) (rest := []) ⟨hx, hb, hml, hown, hts⟩ (c_X10_put l D cI cS H.size r4 30 (ro 4) (nI k) 1 (by first | assumption | omega)) ⟨va_cnB 3 hts gX7_addEvent_X10_put_n55 rfl rfl rfl (hKK.2 _ (List.mem_of_getElem? (i := 23) rfl)) (hts (.initialized RX10) (by decide +kernel)) (by decide +kernel) ⟨Nat.le_of_ble_eq_true rfl, Nat.le_of_ble_eq_true rfl⟩, hts (.static yX10_put) (by decide +kernel), trivial⟩ (ft_preRW hP hD hKK [5] rfl rfl rfl) rfl rfl hl.1 rfl (lv_room (Nat.le_of_ble_eq_true rfl)) dX7_addEvent_125 ⟨Nat.le_of_ble_eq_true rfl, Nat.le_of_ble_eq_true rfl⟩) hP hD hS hA [5] [0, 1, 2, 3, 4, 6, 7, 8, 9] [0, 1, 2, 3, 4, 9, 5, 6, 7, 8] rfl rfl (by decide) (by decide) (by decide) rfl rfl (fun H locs hP hD hS => ?_)
        rw [ftPut_N (k := k) (by omega) (by omega)] at hP hD
        have hP : va_P D vwCl [(a0, .inr (7, [.ref r0, .ref r1, .ref r2, .ref r3, .ref r4, .ref r5, .ref r6, .ref r7, .int (nI k), .int tl])), (r0, .inl (cI, 30, .inl (upd (ro 0) k (nI x)))), (r1, .inl (cI, 30, .inl (upd (ro 1) k (nI y)))), (r2, .inl (cI, 30, .inl (upd (ro 2) k ((v (x - 1)) - (v y))))), (r3, .inl (cI, 30, .inl (upd (ro 3) k ((ftGr v x (y - x)) - (v (x - 1)))))), (r4, .inl (cI, 30, .inl (upd (ro 4) k 1))), (r5, .inl (cI, 30, .inl (ro 5))), (r6, .inl (cI, 30, .inl (ro 6))), (r7, .inl (cI, 30, .inl (ro 7))), (va, .inl (cI, 460, .inl v))] H := hP
        have hD : va_D A [(a0, .inr (7, [.ref r0, .ref r1, .ref r2, .ref r3, .ref r4, .ref r5, .ref r6, .ref r7, .int (nI k), .int tl])), (r0, .inl (cI, 30, .inl (upd (ro 0) k (nI x)))), (r1, .inl (cI, 30, .inl (upd (ro 1) k (nI y)))), (r2, .inl (cI, 30, .inl (upd (ro 2) k ((v (x - 1)) - (v y))))), (r3, .inl (cI, 30, .inl (upd (ro 3) k ((ftGr v x (y - x)) - (v (x - 1)))))), (r4, .inl (cI, 30, .inl (upd (ro 4) k 1))), (r5, .inl (cI, 30, .inl (ro 5))), (r6, .inl (cI, 30, .inl (ro 6))), (r7, .inl (cI, 30, .inl (ro 7))), (va, .inl (cI, 460, .inl v))] := hD
        refine lv_aload_n hx hb dX7_addEvent_128 rfl (lv_at hl 2 rfl) ?_
        refine va_get (D := D) (ci := 7) (v := .ref r5) (C := RX7) (T := TX7) (N := 10) hx hb hts (by decide +kernel) hown hK hP 0 rfl rfl 5 (by decide) (hts (.fieldLink RX7 27 "FiberTrace$Reading" "sectionLosses" "[I") (by decide +kernel)) (fun _ h9 => h9) rfl dX7_addEvent_129 ?_
        refine lv_aload_n hx hb dX7_addEvent_132 rfl (lv_at hl 2 rfl) ?_
        refine va_get (D := D) (ci := 7) (v := .int (nI k)) (C := RX7) (T := TX7) (N := 10) hx hb hts (by decide +kernel) hown hK hP 0 rfl rfl 8 (by decide) (hts (.fieldLink RX7 36 "FiberTrace$Reading" "size" "I") (by decide +kernel)) (fun _ h9 => h9) rfl dX7_addEvent_133 ?_
        refine lv_aload_n hx hb dX7_addEvent_136 rfl (lv_at hl 3 rfl) ?_
        refine lv_iload hx hb dX7_addEvent_137 (lv_at hl 0 rfl) ?_
        refine ft_csi (r := ftAt 460 v 0) (va_runSN (As := [.ref va, .int 0]) (rest := [.int (nI k), .ref r5]) ⟨hx, hb, hml, hown, hts⟩ (c_X10_at l D cI cS va 460 v 0 (by first | assumption | omega)) ⟨va_cnB 2 hts gX7_addEvent_X10_at_n40 rfl rfl rfl (hKK.2 _ (List.mem_of_getElem? (i := 22) rfl)) (hts (.initialized RX10) (by decide +kernel)) (by decide +kernel) ⟨Nat.le_of_ble_eq_true rfl, Nat.le_of_ble_eq_true rfl⟩, hts (.static yX10_at) (by decide +kernel), trivial⟩ (ft_preRO hP hKK [9] rfl) rfl rfl hl.1 rfl (lv_room (Nat.le_of_ble_eq_true rfl)) dX7_addEvent_139 ⟨Nat.le_of_ble_eq_true rfl, Nat.le_of_ble_eq_true rfl⟩) ?_
        refine ft_top (y := v 0) (ftAt_N (k := 0) (by omega) (by omega)) ?_
        refine lv_iload hx hb dX7_addEvent_142 (lv_at hl 1 rfl) ?_
        refine lv_isub hx hb dX7_addEvent_144 ?_
        refine ft_cv (wc := [(r5, .inl (cI, 30, .inl (ro 5)))]) (wr := [(a0, .inr (7, [.ref r0, .ref r1, .ref r2, .ref r3, .ref r4, .ref r5, .ref r6, .ref r7, .int (nI k), .int tl])), (r0, .inl (cI, 30, .inl (upd (ro 0) k (nI x)))), (r1, .inl (cI, 30, .inl (upd (ro 1) k (nI y)))), (r2, .inl (cI, 30, .inl (upd (ro 2) k ((v (x - 1)) - (v y))))), (r3, .inl (cI, 30, .inl (upd (ro 3) k ((ftGr v x (y - x)) - (v (x - 1)))))), (r4, .inl (cI, 30, .inl (upd (ro 4) k 1))), (r6, .inl (cI, 30, .inl (ro 6))), (r7, .inl (cI, 30, .inl (ro 7))), (va, .inl (cI, 460, .inl v))]) (w1 := [(r5, .inl (cI, 30, .inl (ftPut 30 (ro 5) (nI k) ((v 0) - (v (x - 1))))))]) (ws1 := [(a0, .inr (7, [.ref r0, .ref r1, .ref r2, .ref r3, .ref r4, .ref r5, .ref r6, .ref r7, .int (nI k), .int tl])), (r0, .inl (cI, 30, .inl (upd (ro 0) k (nI x)))), (r1, .inl (cI, 30, .inl (upd (ro 1) k (nI y)))), (r2, .inl (cI, 30, .inl (upd (ro 2) k ((v (x - 1)) - (v y))))), (r3, .inl (cI, 30, .inl (upd (ro 3) k ((ftGr v x (y - x)) - (v (x - 1)))))), (r4, .inl (cI, 30, .inl (upd (ro 4) k 1))), (r5, .inl (cI, 30, .inl (ftPut 30 (ro 5) (nI k) ((v 0) - (v (x - 1)))))), (r6, .inl (cI, 30, .inl (ro 6))), (r7, .inl (cI, 30, .inl (ro 7))), (va, .inl (cI, 460, .inl v))]) (va_runSN (As := [.ref r5, .int (nI k), .int ((v 0) - (v (x - 1)))]) (rest := []) ⟨hx, hb, hml, hown, hts⟩ (c_X10_put l D cI cS H.size r5 30 (ro 5) (nI k) ((v 0) - (v (x - 1))) (by first | assumption | omega)) ⟨va_cnB 3 hts gX7_addEvent_X10_put_n55 rfl rfl rfl (hKK.2 _ (List.mem_of_getElem? (i := 23) rfl)) (hts (.initialized RX10) (by decide +kernel)) (by decide +kernel) ⟨Nat.le_of_ble_eq_true rfl, Nat.le_of_ble_eq_true rfl⟩, hts (.static yX10_put) (by decide +kernel), trivial⟩ (ft_preRW hP hD hKK [6] rfl rfl rfl) rfl rfl hl.1 rfl (lv_room (Nat.le_of_ble_eq_true rfl)) dX7_addEvent_145 ⟨Nat.le_of_ble_eq_true rfl, Nat.le_of_ble_eq_true rfl⟩) hP hD hS hA [6] [0, 1, 2, 3, 4, 5, 7, 8, 9] [0, 1, 2, 3, 4, 5, 9, 6, 7, 8] rfl rfl (by decide) (by decide) (by decide) rfl rfl (fun H locs hP hD hS => ?_)
        rw [ftPut_N (k := k) (by omega) (by omega)] at hP hD
        have hP : va_P D vwCl [(a0, .inr (7, [.ref r0, .ref r1, .ref r2, .ref r3, .ref r4, .ref r5, .ref r6, .ref r7, .int (nI k), .int tl])), (r0, .inl (cI, 30, .inl (upd (ro 0) k (nI x)))), (r1, .inl (cI, 30, .inl (upd (ro 1) k (nI y)))), (r2, .inl (cI, 30, .inl (upd (ro 2) k ((v (x - 1)) - (v y))))), (r3, .inl (cI, 30, .inl (upd (ro 3) k ((ftGr v x (y - x)) - (v (x - 1)))))), (r4, .inl (cI, 30, .inl (upd (ro 4) k 1))), (r5, .inl (cI, 30, .inl (upd (ro 5) k ((v 0) - (v (x - 1)))))), (r6, .inl (cI, 30, .inl (ro 6))), (r7, .inl (cI, 30, .inl (ro 7))), (va, .inl (cI, 460, .inl v))] H := hP
        have hD : va_D A [(a0, .inr (7, [.ref r0, .ref r1, .ref r2, .ref r3, .ref r4, .ref r5, .ref r6, .ref r7, .int (nI k), .int tl])), (r0, .inl (cI, 30, .inl (upd (ro 0) k (nI x)))), (r1, .inl (cI, 30, .inl (upd (ro 1) k (nI y)))), (r2, .inl (cI, 30, .inl (upd (ro 2) k ((v (x - 1)) - (v y))))), (r3, .inl (cI, 30, .inl (upd (ro 3) k ((ftGr v x (y - x)) - (v (x - 1)))))), (r4, .inl (cI, 30, .inl (upd (ro 4) k 1))), (r5, .inl (cI, 30, .inl (upd (ro 5) k ((v 0) - (v (x - 1)))))), (r6, .inl (cI, 30, .inl (ro 6))), (r7, .inl (cI, 30, .inl (ro 7))), (va, .inl (cI, 460, .inl v))] := hD
        refine lv_aload_n hx hb dX7_addEvent_148 rfl (lv_at hl 2 rfl) ?_
        refine va_get (D := D) (ci := 7) (v := .ref r6) (C := RX7) (T := TX7) (N := 10) hx hb hts (by decide +kernel) hown hK hP 0 rfl rfl 6 (by decide) (hts (.fieldLink RX7 30 "FiberTrace$Reading" "firstMakers" "[I") (by decide +kernel)) (fun _ h9 => h9) rfl dX7_addEvent_149 ?_
        refine lv_aload_n hx hb dX7_addEvent_152 rfl (lv_at hl 2 rfl) ?_
        refine va_get (D := D) (ci := 7) (v := .int (nI k)) (C := RX7) (T := TX7) (N := 10) hx hb hts (by decide +kernel) hown hK hP 0 rfl rfl 8 (by decide) (hts (.fieldLink RX7 36 "FiberTrace$Reading" "size" "I") (by decide +kernel)) (fun _ h9 => h9) rfl dX7_addEvent_153 ?_
        refine lv_iconst (v := (-1)) hx hb dX7_addEvent_156 (by decide) ?_
        refine ft_cv (wc := [(r6, .inl (cI, 30, .inl (ro 6)))]) (wr := [(a0, .inr (7, [.ref r0, .ref r1, .ref r2, .ref r3, .ref r4, .ref r5, .ref r6, .ref r7, .int (nI k), .int tl])), (r0, .inl (cI, 30, .inl (upd (ro 0) k (nI x)))), (r1, .inl (cI, 30, .inl (upd (ro 1) k (nI y)))), (r2, .inl (cI, 30, .inl (upd (ro 2) k ((v (x - 1)) - (v y))))), (r3, .inl (cI, 30, .inl (upd (ro 3) k ((ftGr v x (y - x)) - (v (x - 1)))))), (r4, .inl (cI, 30, .inl (upd (ro 4) k 1))), (r5, .inl (cI, 30, .inl (upd (ro 5) k ((v 0) - (v (x - 1)))))), (r7, .inl (cI, 30, .inl (ro 7))), (va, .inl (cI, 460, .inl v))]) (w1 := [(r6, .inl (cI, 30, .inl (ftPut 30 (ro 6) (nI k) (-1))))]) (ws1 := [(a0, .inr (7, [.ref r0, .ref r1, .ref r2, .ref r3, .ref r4, .ref r5, .ref r6, .ref r7, .int (nI k), .int tl])), (r0, .inl (cI, 30, .inl (upd (ro 0) k (nI x)))), (r1, .inl (cI, 30, .inl (upd (ro 1) k (nI y)))), (r2, .inl (cI, 30, .inl (upd (ro 2) k ((v (x - 1)) - (v y))))), (r3, .inl (cI, 30, .inl (upd (ro 3) k ((ftGr v x (y - x)) - (v (x - 1)))))), (r4, .inl (cI, 30, .inl (upd (ro 4) k 1))), (r5, .inl (cI, 30, .inl (upd (ro 5) k ((v 0) - (v (x - 1)))))), (r6, .inl (cI, 30, .inl (ftPut 30 (ro 6) (nI k) (-1)))), (r7, .inl (cI, 30, .inl (ro 7))), (va, .inl (cI, 460, .inl v))]) (va_runSN (As := [.ref r6, .int (nI k), .int (-1)]) (rest := []) ⟨hx, hb, hml, hown, hts⟩ (c_X10_put l D cI cS H.size r6 30 (ro 6) (nI k) (-1) (by first | assumption | omega)) ⟨va_cnB 3 hts gX7_addEvent_X10_put_n55 rfl rfl rfl (hKK.2 _ (List.mem_of_getElem? (i := 23) rfl)) (hts (.initialized RX10) (by decide +kernel)) (by decide +kernel) ⟨Nat.le_of_ble_eq_true rfl, Nat.le_of_ble_eq_true rfl⟩, hts (.static yX10_put) (by decide +kernel), trivial⟩ (ft_preRW hP hD hKK [7] rfl rfl rfl) rfl rfl hl.1 rfl (lv_room (Nat.le_of_ble_eq_true rfl)) dX7_addEvent_157 ⟨Nat.le_of_ble_eq_true rfl, Nat.le_of_ble_eq_true rfl⟩) hP hD hS hA [7] [0, 1, 2, 3, 4, 5, 6, 8, 9] [0, 1, 2, 3, 4, 5, 6, 9, 7, 8] rfl rfl (by decide) (by decide) (by decide) rfl rfl (fun H locs hP hD hS => ?_)
        rw [ftPut_N (k := k) (by omega) (by omega)] at hP hD
        have hP : va_P D vwCl [(a0, .inr (7, [.ref r0, .ref r1, .ref r2, .ref r3, .ref r4, .ref r5, .ref r6, .ref r7, .int (nI k), .int tl])), (r0, .inl (cI, 30, .inl (upd (ro 0) k (nI x)))), (r1, .inl (cI, 30, .inl (upd (ro 1) k (nI y)))), (r2, .inl (cI, 30, .inl (upd (ro 2) k ((v (x - 1)) - (v y))))), (r3, .inl (cI, 30, .inl (upd (ro 3) k ((ftGr v x (y - x)) - (v (x - 1)))))), (r4, .inl (cI, 30, .inl (upd (ro 4) k 1))), (r5, .inl (cI, 30, .inl (upd (ro 5) k ((v 0) - (v (x - 1)))))), (r6, .inl (cI, 30, .inl (upd (ro 6) k (-1)))), (r7, .inl (cI, 30, .inl (ro 7))), (va, .inl (cI, 460, .inl v))] H := hP
        have hD : va_D A [(a0, .inr (7, [.ref r0, .ref r1, .ref r2, .ref r3, .ref r4, .ref r5, .ref r6, .ref r7, .int (nI k), .int tl])), (r0, .inl (cI, 30, .inl (upd (ro 0) k (nI x)))), (r1, .inl (cI, 30, .inl (upd (ro 1) k (nI y)))), (r2, .inl (cI, 30, .inl (upd (ro 2) k ((v (x - 1)) - (v y))))), (r3, .inl (cI, 30, .inl (upd (ro 3) k ((ftGr v x (y - x)) - (v (x - 1)))))), (r4, .inl (cI, 30, .inl (upd (ro 4) k 1))), (r5, .inl (cI, 30, .inl (upd (ro 5) k ((v 0) - (v (x - 1)))))), (r6, .inl (cI, 30, .inl (upd (ro 6) k (-1)))), (r7, .inl (cI, 30, .inl (ro 7))), (va, .inl (cI, 460, .inl v))] := hD
        refine lv_aload_n hx hb dX7_addEvent_160 rfl (lv_at hl 2 rfl) ?_
        refine va_get (D := D) (ci := 7) (v := .ref r7) (C := RX7) (T := TX7) (N := 10) hx hb hts (by decide +kernel) hown hK hP 0 rfl rfl 7 (by decide) (hts (.fieldLink RX7 33 "FiberTrace$Reading" "secondMakers" "[I") (by decide +kernel)) (fun _ h9 => h9) rfl dX7_addEvent_161 ?_
        refine lv_aload_n hx hb dX7_addEvent_164 rfl (lv_at hl 2 rfl) ?_
        refine va_get (D := D) (ci := 7) (v := .int (nI k)) (C := RX7) (T := TX7) (N := 10) hx hb hts (by decide +kernel) hown hK hP 0 rfl rfl 8 (by decide) (hts (.fieldLink RX7 36 "FiberTrace$Reading" "size" "I") (by decide +kernel)) (fun _ h9 => h9) rfl dX7_addEvent_165 ?_
        refine lv_iconst (v := (-1)) hx hb dX7_addEvent_168 (by decide) ?_
        refine ft_cv (wc := [(r7, .inl (cI, 30, .inl (ro 7)))]) (wr := [(a0, .inr (7, [.ref r0, .ref r1, .ref r2, .ref r3, .ref r4, .ref r5, .ref r6, .ref r7, .int (nI k), .int tl])), (r0, .inl (cI, 30, .inl (upd (ro 0) k (nI x)))), (r1, .inl (cI, 30, .inl (upd (ro 1) k (nI y)))), (r2, .inl (cI, 30, .inl (upd (ro 2) k ((v (x - 1)) - (v y))))), (r3, .inl (cI, 30, .inl (upd (ro 3) k ((ftGr v x (y - x)) - (v (x - 1)))))), (r4, .inl (cI, 30, .inl (upd (ro 4) k 1))), (r5, .inl (cI, 30, .inl (upd (ro 5) k ((v 0) - (v (x - 1)))))), (r6, .inl (cI, 30, .inl (upd (ro 6) k (-1)))), (va, .inl (cI, 460, .inl v))]) (w1 := [(r7, .inl (cI, 30, .inl (ftPut 30 (ro 7) (nI k) (-1))))]) (ws1 := [(a0, .inr (7, [.ref r0, .ref r1, .ref r2, .ref r3, .ref r4, .ref r5, .ref r6, .ref r7, .int (nI k), .int tl])), (r0, .inl (cI, 30, .inl (upd (ro 0) k (nI x)))), (r1, .inl (cI, 30, .inl (upd (ro 1) k (nI y)))), (r2, .inl (cI, 30, .inl (upd (ro 2) k ((v (x - 1)) - (v y))))), (r3, .inl (cI, 30, .inl (upd (ro 3) k ((ftGr v x (y - x)) - (v (x - 1)))))), (r4, .inl (cI, 30, .inl (upd (ro 4) k 1))), (r5, .inl (cI, 30, .inl (upd (ro 5) k ((v 0) - (v (x - 1)))))), (r6, .inl (cI, 30, .inl (upd (ro 6) k (-1)))), (r7, .inl (cI, 30, .inl (ftPut 30 (ro 7) (nI k) (-1)))), (va, .inl (cI, 460, .inl v))]) (va_runSN (As := [.ref r7, .int (nI k), .int (-1)]) (rest := []) ⟨hx, hb, hml, hown, hts⟩ (c_X10_put l D cI cS H.size r7 30 (ro 7) (nI k) (-1) (by first | assumption | omega)) ⟨va_cnB 3 hts gX7_addEvent_X10_put_n55 rfl rfl rfl (hKK.2 _ (List.mem_of_getElem? (i := 23) rfl)) (hts (.initialized RX10) (by decide +kernel)) (by decide +kernel) ⟨Nat.le_of_ble_eq_true rfl, Nat.le_of_ble_eq_true rfl⟩, hts (.static yX10_put) (by decide +kernel), trivial⟩ (ft_preRW hP hD hKK [8] rfl rfl rfl) rfl rfl hl.1 rfl (lv_room (Nat.le_of_ble_eq_true rfl)) dX7_addEvent_169 ⟨Nat.le_of_ble_eq_true rfl, Nat.le_of_ble_eq_true rfl⟩) hP hD hS hA [8] [0, 1, 2, 3, 4, 5, 6, 7, 9] [0, 1, 2, 3, 4, 5, 6, 7, 9, 8] rfl rfl (by decide) (by decide) (by decide) rfl rfl (fun H locs hP hD hS => ?_)
        rw [ftPut_N (k := k) (by omega) (by omega)] at hP hD
        have hP : va_P D vwCl [(a0, .inr (7, [.ref r0, .ref r1, .ref r2, .ref r3, .ref r4, .ref r5, .ref r6, .ref r7, .int (nI k), .int tl])), (r0, .inl (cI, 30, .inl (upd (ro 0) k (nI x)))), (r1, .inl (cI, 30, .inl (upd (ro 1) k (nI y)))), (r2, .inl (cI, 30, .inl (upd (ro 2) k ((v (x - 1)) - (v y))))), (r3, .inl (cI, 30, .inl (upd (ro 3) k ((ftGr v x (y - x)) - (v (x - 1)))))), (r4, .inl (cI, 30, .inl (upd (ro 4) k 1))), (r5, .inl (cI, 30, .inl (upd (ro 5) k ((v 0) - (v (x - 1)))))), (r6, .inl (cI, 30, .inl (upd (ro 6) k (-1)))), (r7, .inl (cI, 30, .inl (upd (ro 7) k (-1)))), (va, .inl (cI, 460, .inl v))] H := hP
        have hD : va_D A [(a0, .inr (7, [.ref r0, .ref r1, .ref r2, .ref r3, .ref r4, .ref r5, .ref r6, .ref r7, .int (nI k), .int tl])), (r0, .inl (cI, 30, .inl (upd (ro 0) k (nI x)))), (r1, .inl (cI, 30, .inl (upd (ro 1) k (nI y)))), (r2, .inl (cI, 30, .inl (upd (ro 2) k ((v (x - 1)) - (v y))))), (r3, .inl (cI, 30, .inl (upd (ro 3) k ((ftGr v x (y - x)) - (v (x - 1)))))), (r4, .inl (cI, 30, .inl (upd (ro 4) k 1))), (r5, .inl (cI, 30, .inl (upd (ro 5) k ((v 0) - (v (x - 1)))))), (r6, .inl (cI, 30, .inl (upd (ro 6) k (-1)))), (r7, .inl (cI, 30, .inl (upd (ro 7) k (-1)))), (va, .inl (cI, 460, .inl v))] := hD
        refine lv_aload_n hx hb dX7_addEvent_172 rfl (lv_at hl 2 rfl) ?_
        refine lv_dup hx hb dX7_addEvent_173 rfl ?_
        refine va_get (D := D) (ci := 7) (v := .int (nI k)) (C := RX7) (T := TX7) (N := 10) hx hb hts (by decide +kernel) hown hK hP 0 rfl rfl 8 (by decide) (hts (.fieldLink RX7 36 "FiberTrace$Reading" "size" "I") (by decide +kernel)) (fun _ h9 => h9) rfl dX7_addEvent_174 ?_
        refine lv_iconst (v := 1) hx hb dX7_addEvent_177 (by decide) ?_
        refine lv_iadd hx hb dX7_addEvent_178 ?_
        refine ft_top (y := nI (k + 1)) (ft_addN k 1) ?_
        refine va_put (D := D) (ci := 7) (v := .int (nI (k + 1))) (ty := .int) (C := RX7) (T := TX7) (N := 10) hx hb hts (by decide +kernel) tyX7 tyX7_ok nmX7 hown hK hP hD hS 0 rfl rfl 8 (by decide) (hts (.fieldLink RX7 36 "FiberTrace$Reading" "size" "I") (by decide +kernel)) (fun _ h9 => h9) rfl (by decide +kernel) rfl rfl (Nat.le_of_ble_eq_true rfl) dX7_addEvent_179 (fun H locs hP hD hS => ?_)
        have hP : va_P D vwCl [(a0, .inr (7, [.ref r0, .ref r1, .ref r2, .ref r3, .ref r4, .ref r5, .ref r6, .ref r7, .int (nI (k + 1)), .int tl])), (r0, .inl (cI, 30, .inl (upd (ro 0) k (nI x)))), (r1, .inl (cI, 30, .inl (upd (ro 1) k (nI y)))), (r2, .inl (cI, 30, .inl (upd (ro 2) k ((v (x - 1)) - (v y))))), (r3, .inl (cI, 30, .inl (upd (ro 3) k ((ftGr v x (y - x)) - (v (x - 1)))))), (r4, .inl (cI, 30, .inl (upd (ro 4) k 1))), (r5, .inl (cI, 30, .inl (upd (ro 5) k ((v 0) - (v (x - 1)))))), (r6, .inl (cI, 30, .inl (upd (ro 6) k (-1)))), (r7, .inl (cI, 30, .inl (upd (ro 7) k (-1)))), (va, .inl (cI, 460, .inl v))] H := hP
        have hD : va_D A [(a0, .inr (7, [.ref r0, .ref r1, .ref r2, .ref r3, .ref r4, .ref r5, .ref r6, .ref r7, .int (nI (k + 1)), .int tl])), (r0, .inl (cI, 30, .inl (upd (ro 0) k (nI x)))), (r1, .inl (cI, 30, .inl (upd (ro 1) k (nI y)))), (r2, .inl (cI, 30, .inl (upd (ro 2) k ((v (x - 1)) - (v y))))), (r3, .inl (cI, 30, .inl (upd (ro 3) k ((ftGr v x (y - x)) - (v (x - 1)))))), (r4, .inl (cI, 30, .inl (upd (ro 4) k 1))), (r5, .inl (cI, 30, .inl (upd (ro 5) k ((v 0) - (v (x - 1)))))), (r6, .inl (cI, 30, .inl (upd (ro 6) k (-1)))), (r7, .inl (cI, 30, .inl (upd (ro 7) k (-1)))), (va, .inl (cI, 460, .inl v))] := hD
        have hw9 : ([(a0, .inr (7, [.ref r0, .ref r1, .ref r2, .ref r3, .ref r4, .ref r5, .ref r6, .ref r7, .int (nI (k + 1)), .int tl])), (r0, .inl (cI, 30, .inl (upd (ro 0) k (nI x)))), (r1, .inl (cI, 30, .inl (upd (ro 1) k (nI y)))), (r2, .inl (cI, 30, .inl (upd (ro 2) k ((v (x - 1)) - (v y))))), (r3, .inl (cI, 30, .inl (upd (ro 3) k ((ftGr v x (y - x)) - (v (x - 1)))))), (r4, .inl (cI, 30, .inl (upd (ro 4) k 1))), (r5, .inl (cI, 30, .inl (upd (ro 5) k ((v 0) - (v (x - 1)))))), (r6, .inl (cI, 30, .inl (upd (ro 6) k (-1)))), (r7, .inl (cI, 30, .inl (upd (ro 7) k (-1)))), (va, .inl (cI, 460, .inl v))] : va_W) = [(a0, .inr (7, [.ref r0, .ref r1, .ref r2, .ref r3, .ref r4, .ref r5, .ref r6, .ref r7, .int (nI (k + 1)), .int tl])), (r0, .inl (cI, 30, .inl (upd (ro 0) k (ftEvV v x y (ftSb ro k) rb 0)))), (r1, .inl (cI, 30, .inl (upd (ro 1) k (ftEvV v x y (ftSb ro k) rb 1)))), (r2, .inl (cI, 30, .inl (upd (ro 2) k (ftEvV v x y (ftSb ro k) rb 2)))), (r3, .inl (cI, 30, .inl (upd (ro 3) k (ftEvV v x y (ftSb ro k) rb 3)))), (r4, .inl (cI, 30, .inl (upd (ro 4) k (ftEvV v x y (ftSb ro k) rb 4)))), (r5, .inl (cI, 30, .inl (upd (ro 5) k (ftEvV v x y (ftSb ro k) rb 5)))), (r6, .inl (cI, 30, .inl (upd (ro 6) k (ftEvV v x y (ftSb ro k) rb 6)))), (r7, .inl (cI, 30, .inl (upd (ro 7) k (ftEvV v x y (ftSb ro k) rb 7)))), (va, .inl (cI, 460, .inl v))] := by first | (simp only [ftEvV, hsb9, if_pos c88]; done) | (simp only [ftEvV, hsb9, if_neg c88]; done)
        rw [hw9] at hP hD
        exact W.vret hx hb hr (fun t ht hW => ⟨⟨(), rfl, trivial, by rw [ht]; exact hP, by rw [hAe]; exact hD⟩, by rw [hAe]; exact hS.F ht⟩) hS.2.2 dX7_addEvent_182
end
section
/-! reading: the reader's way through the values -/
theorem ftEnd_geX {v : Nat → Int32} {st : Int32} {L x y : Nat} (h1 : x ≤ y) (h2 : x ≤ L) : x ≤ ftEnd v st L y := by
  rcases Nat.le_total y L with q | q
  · exact Nat.le_trans h1 (ftEnd_ge q)
  · rw [ftEnd_last q]; exact h2
theorem ft_maxN {x y : Nat} (h : x ≤ y) (hy : y < 2 ^ 31) : ftMax (nI x) (nI y) = nI y := by
  unfold ftMax
  by_cases q : nI x < nI y
  · rw [if_pos q]
  · rw [if_neg q]
    have := ft_nltN (by omega) hy q
    rw [show x = y by omega]
theorem ftUpd_same (f : Nat → Int32) (k : Nat) (a b : Int32) : upd (upd f k a) (k + 1 - 1) b = upd f k b := by
  funext t
  unfold upd
  rw [Nat.add_sub_cancel]
  by_cases q : t = k
  · rw [if_pos q, if_pos q]
  · rw [if_neg q, if_neg q, if_neg q]
theorem ftUpd_at (f : Nat → Int32) (k : Nat) (a : Int32) : upd f k a (k + 1 - 1) = a := by
  rw [Nat.add_sub_cancel]; exact if_pos rfl
/-- how many events, whether ended, the rows -/
abbrev ftRs : Type := Nat × Int32 × (Nat → Nat → Int32)
def ftEvE (v : Nat → Int32) (x y sb : Nat) (rb en : Int32) (c : Nat) : Int32 := if c = 4 then (if en = 0 then ftEvV v x y sb rb 4 else 3) else ftEvV v x y sb rb c
def ftRdEv (v : Nat → Int32) (x y : Nat) (rb en : Int32) (q : ftRs) : ftRs := (q.1 + 1, en, fun c t => if t = q.1 then ftEvE v x y (ftSb q.2.2 q.1) rb en c else q.2.2 c t)
def ftRdL (v : Nat → Int32) (N w : Nat) (ri st fl : Int32) : Nat → Nat → ftRs → ftRs
  | 0, _, q => q
  | f + 1, x, q => if x < N ∧ q.1 < 30 ∧ q.2.1 = 0 then
      (if ri ≤ v x - v (x - 1) then ftRdL v N w ri st fl f (ftEnd v st (N - 1) (x + w - 1) + 1) (ftRdEv v x (ftEnd v st (N - 1) (x + w - 1)) 1 (if v (ftEnd v st (N - 1) (x + w - 1)) < fl then 1 else 0) q)
       else if st < -(v x - v (x - 1)) then ftRdL v N w ri st fl f (ftEnd v st (N - 1) x + 1) (ftRdEv v x (ftEnd v st (N - 1) x) 0 (if v (ftEnd v st (N - 1) x) < fl then 1 else 0) q)
       else ftRdL v N w ri st fl f (x + 1) q) else q
theorem ftRdL_fuel {v : Nat → Int32} {N w : Nat} {ri st fl : Int32} (hw : 1 ≤ w) : ∀ (f g x : Nat) (q : ftRs), N - x < f → N - x < g → ftRdL v N w ri st fl f x q = ftRdL v N w ri st fl g x q := by
  intro f
  induction f with
  | zero => intro g x q h; omega
  | succ f ih =>
    intro g x q hf hg
    obtain ⟨g, rfl⟩ : ∃ k, g = k + 1 := ⟨g - 1, by omega⟩
    unfold ftRdL
    by_cases c : x < N ∧ q.1 < 30 ∧ q.2.1 = 0
    · rw [if_pos c, if_pos c]
      have e1 := ftEnd_geX (v := v) (st := st) (L := N - 1) (x := x) (y := x + w - 1) (by omega) (by omega)
      have e2 := ftEnd_geX (v := v) (st := st) (L := N - 1) (x := x) (y := x) (by omega) (by omega)
      by_cases d : ri ≤ v x - v (x - 1)
      · rw [if_pos d, if_pos d]; exact ih g _ _ (by omega) (by omega)
      · rw [if_neg d, if_neg d]
        by_cases k : st < -(v x - v (x - 1))
        · rw [if_pos k, if_pos k]; exact ih g _ _ (by omega) (by omega)
        · rw [if_neg k, if_neg k]; exact ih g _ _ (by omega) (by omega)
    · rw [if_neg c, if_neg c]
theorem ftRdL_r {v : Nat → Int32} {N w x : Nat} {ri st fl : Int32} {q : ftRs} {en : Int32} (hw : 1 ≤ w) (hx : x < N) (h30 : q.1 < 30) (h0 : q.2.1 = 0) (hr : ri ≤ v x - v (x - 1)) (hen : en = if v (ftEnd v st (N - 1) (x + w - 1)) < fl then 1 else 0) :
    ftRdL v N w ri st fl (N - x + 1) x q = ftRdL v N w ri st fl (N - (ftEnd v st (N - 1) (x + w - 1) + 1) + 1) (ftEnd v st (N - 1) (x + w - 1) + 1) (ftRdEv v x (ftEnd v st (N - 1) (x + w - 1)) 1 en q) := by
  have e1 := ftEnd_geX (v := v) (st := st) (L := N - 1) (x := x) (y := x + w - 1) (by omega) (by omega)
  rw [ftRdL, if_pos ⟨hx, h30, h0⟩, if_pos hr, hen]
  exact ftRdL_fuel hw _ _ _ _ (by omega) (by omega)
theorem ftRdL_p {v : Nat → Int32} {N w x : Nat} {ri st fl : Int32} {q : ftRs} {en : Int32} (hw : 1 ≤ w) (hx : x < N) (h30 : q.1 < 30) (h0 : q.2.1 = 0) (hr : ¬ ri ≤ v x - v (x - 1)) (hp : st < -(v x - v (x - 1))) (hen : en = if v (ftEnd v st (N - 1) x) < fl then 1 else 0) :
    ftRdL v N w ri st fl (N - x + 1) x q = ftRdL v N w ri st fl (N - (ftEnd v st (N - 1) x + 1) + 1) (ftEnd v st (N - 1) x + 1) (ftRdEv v x (ftEnd v st (N - 1) x) 0 en q) := by
  have e1 := ftEnd_geX (v := v) (st := st) (L := N - 1) (x := x) (y := x) (by omega) (by omega)
  rw [ftRdL, if_pos ⟨hx, h30, h0⟩, if_neg hr, if_pos hp, hen]
  exact ftRdL_fuel hw _ _ _ _ (by omega) (by omega)
theorem ftRdL_s {v : Nat → Int32} {N w x : Nat} {ri st fl : Int32} {q : ftRs} (hw : 1 ≤ w) (hx : x < N) (h30 : q.1 < 30) (h0 : q.2.1 = 0) (hr : ¬ ri ≤ v x - v (x - 1)) (hp : ¬ st < -(v x - v (x - 1))) :
    ftRdL v N w ri st fl (N - x + 1) x q = ftRdL v N w ri st fl (N - (x + 1) + 1) (x + 1) q := by
  rw [ftRdL, if_pos ⟨hx, h30, h0⟩, if_neg hr, if_neg hp]
  exact ftRdL_fuel hw _ _ _ _ (by omega) (by omega)
theorem ftRdL_e {v : Nat → Int32} {N w x f : Nat} {ri st fl : Int32} {q : ftRs} (h : ¬ (x < N ∧ q.1 < 30 ∧ q.2.1 = 0)) : ftRdL v N w ri st fl (f + 1) x q = q := by
  rw [ftRdL, if_neg h]
def ftRd (v : Nat → Int32) (N w : Nat) (ri st fl : Int32) (ro : Nat → Nat → Int32) : ftRs := ftRdL v N w ri st fl (N - 1 + 1) 1 (0, 0, ro)
set_option maxHeartbeats 4000000 in
set_option maxRecDepth 100000 in
theorem c_X7_read (l : Launch) (D : va_G) (cI cS : ClassId) (sz : Nat) (a0 r0 r1 r2 r3 r4 r5 r6 r7 k : Nat) (tl : Int32) (ro : Nat → Nat → Int32) (va : Nat) (v : Nat → Int32) (N : Nat) (s0 : Nat) (sf : Nat → Int32) (w : Nat) (hN0 : 0 < N) (hN : N ≤ 460) (hw : 1 ≤ w) (hw2 : w ≤ 20) (hs0 : sf 0 = nI w) : Met l yX7_read wsX7_read ({ frames := 3, cells := 0, slots := 0, locals := 80 }) (ftRW D cI cS [.ref a0, .ref va, .int (nI N), .ref s0] [(a0, .inr (7, [.ref r0, .ref r1, .ref r2, .ref r3, .ref r4, .ref r5, .ref r6, .ref r7, .int (nI k), .int tl])), (r0, .inl (cI, 30, .inl (ro 0))), (r1, .inl (cI, 30, .inl (ro 1))), (r2, .inl (cI, 30, .inl (ro 2))), (r3, .inl (cI, 30, .inl (ro 3))), (r4, .inl (cI, 30, .inl (ro 4))), (r5, .inl (cI, 30, .inl (ro 5))), (r6, .inl (cI, 30, .inl (ro 6))), (r7, .inl (cI, 30, .inl (ro 7))), (va, .inl (cI, 460, .inl v)), (s0, .inl (cI, 11, .inl sf))] sz) (ftQv D [(a0, .inr (7, [.ref r0, .ref r1, .ref r2, .ref r3, .ref r4, .ref r5, .ref r6, .ref r7, .int (nI k), .int tl])), (r0, .inl (cI, 30, .inl (ro 0))), (r1, .inl (cI, 30, .inl (ro 1))), (r2, .inl (cI, 30, .inl (ro 2))), (r3, .inl (cI, 30, .inl (ro 3))), (r4, .inl (cI, 30, .inl (ro 4))), (r5, .inl (cI, 30, .inl (ro 5))), (r6, .inl (cI, 30, .inl (ro 6))), (r7, .inl (cI, 30, .inl (ro 7))), (va, .inl (cI, 460, .inl v)), (s0, .inl (cI, 11, .inl sf))] [(a0, .inr (7, [.ref r0, .ref r1, .ref r2, .ref r3, .ref r4, .ref r5, .ref r6, .ref r7, .int (nI (ftRd v N w (sf 6) (sf 7) (sf 8) ro).1), .int (sf 9)])), (r0, .inl (cI, 30, .inl ((ftRd v N w (sf 6) (sf 7) (sf 8) ro).2.2 0))), (r1, .inl (cI, 30, .inl ((ftRd v N w (sf 6) (sf 7) (sf 8) ro).2.2 1))), (r2, .inl (cI, 30, .inl ((ftRd v N w (sf 6) (sf 7) (sf 8) ro).2.2 2))), (r3, .inl (cI, 30, .inl ((ftRd v N w (sf 6) (sf 7) (sf 8) ro).2.2 3))), (r4, .inl (cI, 30, .inl ((ftRd v N w (sf 6) (sf 7) (sf 8) ro).2.2 4))), (r5, .inl (cI, 30, .inl ((ftRd v N w (sf 6) (sf 7) (sf 8) ro).2.2 5))), (r6, .inl (cI, 30, .inl ((ftRd v N w (sf 6) (sf 7) (sf 8) ro).2.2 6))), (r7, .inl (cI, 30, .inl ((ftRd v N w (sf 6) (sf 7) (sf 8) ro).2.2 7))), (va, .inl (cI, 460, .inl v)), (s0, .inl (cI, 11, .inl sf))] sz) 0 0 (va_A [(a0, .inr (7, [.ref r0, .ref r1, .ref r2, .ref r3, .ref r4, .ref r5, .ref r6, .ref r7, .int (nI k), .int tl])), (r0, .inl (cI, 30, .inl (ro 0))), (r1, .inl (cI, 30, .inl (ro 1))), (r2, .inl (cI, 30, .inl (ro 2))), (r3, .inl (cI, 30, .inl (ro 3))), (r4, .inl (cI, 30, .inl (ro 4))), (r5, .inl (cI, 30, .inl (ro 5))), (r6, .inl (cI, 30, .inl (ro 6))), (r7, .inl (cI, 30, .inl (ro 7))), (va, .inl (cI, 460, .inl v)), (s0, .inl (cI, 11, .inl sf))] sz) := by
  refine Met.ofW (cc := cX7_read) (maxL := 10) (ret := none) (by decide) rfl ?_
  intro p e s m args below meth c s₁ B hml hv
  obtain ⟨rfl, hsz, hP, hKK, hD0⟩ := hv
  have hK := hKK.1
  have hx := B.exec
  have hb := B.bytes
  have hr := B.returns
  have hts := atoms_spec (ws := wsX7_read) B.pre
  have hown : s.vm.findClass RX7 = some m.cls := findClass_of_methodNamed B.named
  have hlocks := B.notSynchronized
  subst hsz
  have hD := hD0.self (sz := s.heap.size)
  generalize hAe : va_A [(a0, .inr (7, [.ref r0, .ref r1, .ref r2, .ref r3, .ref r4, .ref r5, .ref r6, .ref r7, .int (nI k), .int tl])), (r0, .inl (cI, 30, .inl (ro 0))), (r1, .inl (cI, 30, .inl (ro 1))), (r2, .inl (cI, 30, .inl (ro 2))), (r3, .inl (cI, 30, .inl (ro 3))), (r4, .inl (cI, 30, .inl (ro 4))), (r5, .inl (cI, 30, .inl (ro 5))), (r6, .inl (cI, 30, .inl (ro 6))), (r7, .inl (cI, 30, .inl (ro 7))), (va, .inl (cI, 460, .inl v)), (s0, .inl (cI, 11, .inl sf))] s.heap.size = A at hD ⊢
  have hA : ∀ q : Nat, s.heap.size ≤ q → A q := fun q h => by rw [← hAe]; exact Or.inr h
  have hS : va_S A s.heap s.heap [] := va_S.rf
  have hD : va_D A [(a0, .inr (7, [.ref r0, .ref r1, .ref r2, .ref r3, .ref r4, .ref r5, .ref r6, .ref r7, .int (nI k), .int tl])), (r0, .inl (cI, 30, .inl (ro 0))), (r1, .inl (cI, 30, .inl (ro 1))), (r2, .inl (cI, 30, .inl (ro 2))), (r3, .inl (cI, 30, .inl (ro 3))), (r4, .inl (cI, 30, .inl (ro 4))), (r5, .inl (cI, 30, .inl (ro 5))), (r6, .inl (cI, 30, .inl (ro 6))), (r7, .inl (cI, 30, .inl (ro 7))), (va, .inl (cI, 460, .inl v)), (s0, .inl (cI, 11, .inl sf))] := hD
  have hP : va_P D vwCl [(a0, .inr (7, [.ref r0, .ref r1, .ref r2, .ref r3, .ref r4, .ref r5, .ref r6, .ref r7, .int (nI k), .int tl])), (r0, .inl (cI, 30, .inl (ro 0))), (r1, .inl (cI, 30, .inl (ro 1))), (r2, .inl (cI, 30, .inl (ro 2))), (r3, .inl (cI, 30, .inl (ro 3))), (r4, .inl (cI, 30, .inl (ro 4))), (r5, .inl (cI, 30, .inl (ro 5))), (r6, .inl (cI, 30, .inl (ro 6))), (r7, .inl (cI, 30, .inl (ro 7))), (va, .inl (cI, 460, .inl v)), (s0, .inl (cI, 11, .inl sf))] s.heap := hP
  have hl := lv_entry ([.ref a0, .ref va, .int (nI N), .ref s0]) (n := 10) (Nat.le_of_ble_eq_true rfl)
  rw [lg_entry_eq]
  generalize (lg_sl ([.ref a0, .ref va, .int (nI N), .ref s0]) ++ List.replicate (10 - (lg_sl ([.ref a0, .ref va, .int (nI N), .ref s0])).length) Slot.unset).toArray = ls at hl ⊢
  have hl : lv_has ls 10 [(0, .ref a0), (1, .ref va), (2, .int (nI N)), (3, .ref s0)] := hl
  refine lv_aload_n hx hb dX7_read_0 rfl (lv_at hl 0 rfl) ?_
  refine lv_iconst (v := 0) hx hb dX7_read_1 (by decide) ?_
  refine va_put (D := D) (ci := 7) (v := .int 0) (ty := .int) (C := RX7) (T := TX7) (N := 10) hx hb hts (by decide +kernel) tyX7 tyX7_ok nmX7 hown hK hP hD hS 0 rfl rfl 8 (by decide) (hts (.fieldLink RX7 36 "FiberTrace$Reading" "size" "I") (by decide +kernel)) (fun _ h9 => h9) rfl (by decide +kernel) rfl rfl (Nat.le_of_ble_eq_true rfl) dX7_read_2 (fun H locs hP hD hS => ?_)
  have hP : va_P D vwCl [(a0, .inr (7, [.ref r0, .ref r1, .ref r2, .ref r3, .ref r4, .ref r5, .ref r6, .ref r7, .int 0, .int tl])), (r0, .inl (cI, 30, .inl (ro 0))), (r1, .inl (cI, 30, .inl (ro 1))), (r2, .inl (cI, 30, .inl (ro 2))), (r3, .inl (cI, 30, .inl (ro 3))), (r4, .inl (cI, 30, .inl (ro 4))), (r5, .inl (cI, 30, .inl (ro 5))), (r6, .inl (cI, 30, .inl (ro 6))), (r7, .inl (cI, 30, .inl (ro 7))), (va, .inl (cI, 460, .inl v)), (s0, .inl (cI, 11, .inl sf))] H := hP
  have hD : va_D A [(a0, .inr (7, [.ref r0, .ref r1, .ref r2, .ref r3, .ref r4, .ref r5, .ref r6, .ref r7, .int 0, .int tl])), (r0, .inl (cI, 30, .inl (ro 0))), (r1, .inl (cI, 30, .inl (ro 1))), (r2, .inl (cI, 30, .inl (ro 2))), (r3, .inl (cI, 30, .inl (ro 3))), (r4, .inl (cI, 30, .inl (ro 4))), (r5, .inl (cI, 30, .inl (ro 5))), (r6, .inl (cI, 30, .inl (ro 6))), (r7, .inl (cI, 30, .inl (ro 7))), (va, .inl (cI, 460, .inl v)), (s0, .inl (cI, 11, .inl sf))] := hD
  refine lv_aload_n hx hb dX7_read_5 rfl (lv_at hl 0 rfl) ?_
  refine lv_aload_n hx hb dX7_read_6 rfl (lv_at hl 3 rfl) ?_
  refine lv_bipush (v := 9) hx hb dX7_read_7 (by decide) ?_
  refine ft_csi (r := ftAt 11 sf 9) (va_runSN (As := [.ref s0, .int 9]) (rest := [.ref a0]) ⟨hx, hb, hml, hown, hts⟩ (c_X10_at l D cI cS s0 11 sf 9 (by first | assumption | omega)) ⟨va_cnB 2 hts gX7_read_X10_at_n40 rfl rfl rfl (hKK.2 _ (List.mem_of_getElem? (i := 22) rfl)) (hts (.initialized RX10) (by decide +kernel)) (by decide +kernel) ⟨Nat.le_of_ble_eq_true rfl, Nat.le_of_ble_eq_true rfl⟩, hts (.static yX10_at) (by decide +kernel), trivial⟩ (ft_preRO hP hKK [10] rfl) rfl rfl hl.1 rfl (lv_room (Nat.le_of_ble_eq_true rfl)) dX7_read_9 ⟨Nat.le_of_ble_eq_true rfl, Nat.le_of_ble_eq_true rfl⟩) ?_
  refine ft_top (y := sf 9) (ftAt_N (k := 9) (by omega) (by omega)) ?_
  refine va_put (D := D) (ci := 7) (v := .int (sf 9)) (ty := .int) (C := RX7) (T := TX7) (N := 10) hx hb hts (by decide +kernel) tyX7 tyX7_ok nmX7 hown hK hP hD hS 0 rfl rfl 9 (by decide) (hts (.fieldLink RX7 44 "FiberTrace$Reading" "tolerance" "I") (by decide +kernel)) (fun _ h9 => h9) rfl (by decide +kernel) rfl rfl (Nat.le_of_ble_eq_true rfl) dX7_read_12 (fun H locs hP hD hS => ?_)
  have hP : va_P D vwCl [(a0, .inr (7, [.ref r0, .ref r1, .ref r2, .ref r3, .ref r4, .ref r5, .ref r6, .ref r7, .int 0, .int (sf 9)])), (r0, .inl (cI, 30, .inl (ro 0))), (r1, .inl (cI, 30, .inl (ro 1))), (r2, .inl (cI, 30, .inl (ro 2))), (r3, .inl (cI, 30, .inl (ro 3))), (r4, .inl (cI, 30, .inl (ro 4))), (r5, .inl (cI, 30, .inl (ro 5))), (r6, .inl (cI, 30, .inl (ro 6))), (r7, .inl (cI, 30, .inl (ro 7))), (va, .inl (cI, 460, .inl v)), (s0, .inl (cI, 11, .inl sf))] H := hP
  have hD : va_D A [(a0, .inr (7, [.ref r0, .ref r1, .ref r2, .ref r3, .ref r4, .ref r5, .ref r6, .ref r7, .int 0, .int (sf 9)])), (r0, .inl (cI, 30, .inl (ro 0))), (r1, .inl (cI, 30, .inl (ro 1))), (r2, .inl (cI, 30, .inl (ro 2))), (r3, .inl (cI, 30, .inl (ro 3))), (r4, .inl (cI, 30, .inl (ro 4))), (r5, .inl (cI, 30, .inl (ro 5))), (r6, .inl (cI, 30, .inl (ro 6))), (r7, .inl (cI, 30, .inl (ro 7))), (va, .inl (cI, 460, .inl v)), (s0, .inl (cI, 11, .inl sf))] := hD
  refine lv_iconst (v := 0) hx hb dX7_read_15 (by decide) ?_
  refine lv_istore (lv' := [(4, .int 0), (0, .ref a0), (1, .ref va), (2, .int (nI N)), (3, .ref s0)]) hx hb dX7_read_16 hl (by decide) rfl (fun ls hl => ?_)
  refine lv_iconst (v := 1) hx hb dX7_read_18 (by decide) ?_
  refine lv_istore (lv' := [(5, .int 1), (4, .int 0), (0, .ref a0), (1, .ref va), (2, .int (nI N)), (3, .ref s0)]) hx hb dX7_read_19 hl (by decide) rfl (fun ls hl => ?_)
  have lp21 : ∀ (n21 : Nat) (x : Nat) (q : ftRs) (x21_4 : Int32) (x21_5 : Int32) (g21_a0_8 : Int32) (g21_r0 : Nat → Int32) (g21_r1 : Nat → Int32) (g21_r2 : Nat → Int32) (g21_r3 : Nat → Int32) (g21_r4 : Nat → Int32) (g21_r5 : Nat → Int32) (g21_r6 : Nat → Int32) (g21_r7 : Nat → Int32), N - x < n21 → (1 ≤ x) → (x ≤ N) → (q.1 ≤ 30) → (0 < q.1 → ∃ e, e < 460 ∧ q.2.2 1 (q.1 - 1) = nI e) → (ftRd v N w (sf 6) (sf 7) (sf 8) ro = ftRdL v N w (sf 6) (sf 7) (sf 8) (N - x + 1) x q) → x21_4 = q.2.1 → x21_5 = nI x → g21_a0_8 = nI q.1 → g21_r0 = q.2.2 0 → g21_r1 = q.2.2 1 → g21_r2 = q.2.2 2 → g21_r3 = q.2.2 3 → g21_r4 = q.2.2 4 → g21_r5 = q.2.2 5 → g21_r6 = q.2.2 6 → g21_r7 = q.2.2 7 → ∀ (H : Heap) (locs : List Loc), va_P D vwCl [(a0, .inr (7, [.ref r0, .ref r1, .ref r2, .ref r3, .ref r4, .ref r5, .ref r6, .ref r7, .int g21_a0_8, .int (sf 9)])), (r0, .inl (cI, 30, .inl g21_r0)), (r1, .inl (cI, 30, .inl g21_r1)), (r2, .inl (cI, 30, .inl g21_r2)), (r3, .inl (cI, 30, .inl g21_r3)), (r4, .inl (cI, 30, .inl g21_r4)), (r5, .inl (cI, 30, .inl g21_r5)), (r6, .inl (cI, 30, .inl g21_r6)), (r7, .inl (cI, 30, .inl g21_r7)), (va, .inl (cI, 460, .inl v)), (s0, .inl (cI, 11, .inl sf))] H → va_D A [(a0, .inr (7, [.ref r0, .ref r1, .ref r2, .ref r3, .ref r4, .ref r5, .ref r6, .ref r7, .int g21_a0_8, .int (sf 9)])), (r0, .inl (cI, 30, .inl g21_r0)), (r1, .inl (cI, 30, .inl g21_r1)), (r2, .inl (cI, 30, .inl g21_r2)), (r3, .inl (cI, 30, .inl g21_r3)), (r4, .inl (cI, 30, .inl g21_r4)), (r5, .inl (cI, 30, .inl g21_r5)), (r6, .inl (cI, 30, .inl g21_r6)), (r7, .inl (cI, 30, .inl g21_r7)), (va, .inl (cI, 460, .inl v)), (s0, .inl (cI, 11, .inl sf))] → va_S A s.heap H locs → ∀ ls : Array Slot, lv_has ls 10 [(0, .ref a0), (1, .ref va), (2, .int (nI N)), (3, .ref s0), (4, .int x21_4), (5, .int x21_5)] → W p l e (headSpec wsX7_read { frames := 3, cells := 0, slots := 0, locals := 80 }).room s m ([.ref a0, .ref va, .int (nI N), .ref s0] : List Value).toArray below meth c H locs 0 0 (MQ below (ftQv D [(a0, .inr (7, [.ref r0, .ref r1, .ref r2, .ref r3, .ref r4, .ref r5, .ref r6, .ref r7, .int (nI k), .int tl])), (r0, .inl (cI, 30, .inl (ro 0))), (r1, .inl (cI, 30, .inl (ro 1))), (r2, .inl (cI, 30, .inl (ro 2))), (r3, .inl (cI, 30, .inl (ro 3))), (r4, .inl (cI, 30, .inl (ro 4))), (r5, .inl (cI, 30, .inl (ro 5))), (r6, .inl (cI, 30, .inl (ro 6))), (r7, .inl (cI, 30, .inl (ro 7))), (va, .inl (cI, 460, .inl v)), (s0, .inl (cI, 11, .inl sf))] [(a0, .inr (7, [.ref r0, .ref r1, .ref r2, .ref r3, .ref r4, .ref r5, .ref r6, .ref r7, .int (nI (ftRd v N w (sf 6) (sf 7) (sf 8) ro).1), .int (sf 9)])), (r0, .inl (cI, 30, .inl ((ftRd v N w (sf 6) (sf 7) (sf 8) ro).2.2 0))), (r1, .inl (cI, 30, .inl ((ftRd v N w (sf 6) (sf 7) (sf 8) ro).2.2 1))), (r2, .inl (cI, 30, .inl ((ftRd v N w (sf 6) (sf 7) (sf 8) ro).2.2 2))), (r3, .inl (cI, 30, .inl ((ftRd v N w (sf 6) (sf 7) (sf 8) ro).2.2 3))), (r4, .inl (cI, 30, .inl ((ftRd v N w (sf 6) (sf 7) (sf 8) ro).2.2 4))), (r5, .inl (cI, 30, .inl ((ftRd v N w (sf 6) (sf 7) (sf 8) ro).2.2 5))), (r6, .inl (cI, 30, .inl ((ftRd v N w (sf 6) (sf 7) (sf 8) ro).2.2 6))), (r7, .inl (cI, 30, .inl ((ftRd v N w (sf 6) (sf 7) (sf 8) ro).2.2 7))), (va, .inl (cI, 460, .inl v)), (s0, .inl (cI, 11, .inl sf))] s.heap.size) ([.ref a0, .ref va, .int (nI N), .ref s0] : List Value).toArray s 0 0 A) (F0 m 21 ls []) := by
    intro n21
    induction n21 with
    | zero =>
      intro x q x21_4 x21_5 g21_a0_8 g21_r0 g21_r1 g21_r2 g21_r3 g21_r4 g21_r5 g21_r6 g21_r7 hm21
      exact absurd hm21 (Nat.not_lt_zero _)
    | succ n21 ih21 =>
      intro x q x21_4 x21_5 g21_a0_8 g21_r0 g21_r1 g21_r2 g21_r3 g21_r4 g21_r5 g21_r6 g21_r7 hm21 hx1 hxN hq30 hsb hres ex21_4 ex21_5 eg21_a0_8 eg21_r0 eg21_r1 eg21_r2 eg21_r3 eg21_r4 eg21_r5 eg21_r6 eg21_r7 H locs hP hD hS ls hl
      subst ex21_4
      subst ex21_5
      subst eg21_a0_8
      subst eg21_r0
      subst eg21_r1
      subst eg21_r2
      subst eg21_r3
      subst eg21_r4
      subst eg21_r5
      subst eg21_r6
      subst eg21_r7
      refine lv_iload hx hb dX7_read_21 (lv_at hl 5 rfl) ?_
      refine lv_iload_n hx hb dX7_read_23 rfl (lv_at hl 2 rfl) ?_
      refine lv_icmp_ge (tgt := 213) hx hb dX7_read_24 (by decide) (fun c24 => ?_) (fun c24 => ?_)
      · have c24n : N ≤ x := ft_leN (by omega) (by omega) c24
        have hw9 : ([(a0, .inr (7, [.ref r0, .ref r1, .ref r2, .ref r3, .ref r4, .ref r5, .ref r6, .ref r7, .int (nI q.1), .int (sf 9)])), (r0, .inl (cI, 30, .inl (q.2.2 0))), (r1, .inl (cI, 30, .inl (q.2.2 1))), (r2, .inl (cI, 30, .inl (q.2.2 2))), (r3, .inl (cI, 30, .inl (q.2.2 3))), (r4, .inl (cI, 30, .inl (q.2.2 4))), (r5, .inl (cI, 30, .inl (q.2.2 5))), (r6, .inl (cI, 30, .inl (q.2.2 6))), (r7, .inl (cI, 30, .inl (q.2.2 7))), (va, .inl (cI, 460, .inl v)), (s0, .inl (cI, 11, .inl sf))] : va_W) = [(a0, .inr (7, [.ref r0, .ref r1, .ref r2, .ref r3, .ref r4, .ref r5, .ref r6, .ref r7, .int (nI (ftRd v N w (sf 6) (sf 7) (sf 8) ro).1), .int (sf 9)])), (r0, .inl (cI, 30, .inl ((ftRd v N w (sf 6) (sf 7) (sf 8) ro).2.2 0))), (r1, .inl (cI, 30, .inl ((ftRd v N w (sf 6) (sf 7) (sf 8) ro).2.2 1))), (r2, .inl (cI, 30, .inl ((ftRd v N w (sf 6) (sf 7) (sf 8) ro).2.2 2))), (r3, .inl (cI, 30, .inl ((ftRd v N w (sf 6) (sf 7) (sf 8) ro).2.2 3))), (r4, .inl (cI, 30, .inl ((ftRd v N w (sf 6) (sf 7) (sf 8) ro).2.2 4))), (r5, .inl (cI, 30, .inl ((ftRd v N w (sf 6) (sf 7) (sf 8) ro).2.2 5))), (r6, .inl (cI, 30, .inl ((ftRd v N w (sf 6) (sf 7) (sf 8) ro).2.2 6))), (r7, .inl (cI, 30, .inl ((ftRd v N w (sf 6) (sf 7) (sf 8) ro).2.2 7))), (va, .inl (cI, 460, .inl v)), (s0, .inl (cI, 11, .inl sf))] := by first | rw [hres, ftRdL_e (fun h => absurd h.1 (by omega))] | rw [hres, ftRdL_e (fun h => absurd h.2.1 (by omega))] | rw [hres, ftRdL_e (fun h => c38 h.2.2)]
        rw [hw9] at hP hD
        exact W.vret hx hb hr (fun t ht hW => ⟨⟨(), rfl, trivial, by rw [ht]; exact hP, by rw [hAe]; exact hD⟩, by rw [hAe]; exact hS.F ht⟩) hS.2.2 dX7_read_213
      · have c24n : x < N := ft_nleN (by omega) (by omega) c24
        refine lv_aload_n hx hb dX7_read_27 rfl (lv_at hl 0 rfl) ?_
        refine va_get (D := D) (ci := 7) (v := .int (nI q.1)) (C := RX7) (T := TX7) (N := 10) hx hb hts (by decide +kernel) hown hK hP 0 rfl rfl 8 (by decide) (hts (.fieldLink RX7 36 "FiberTrace$Reading" "size" "I") (by decide +kernel)) (fun _ h9 => h9) rfl dX7_read_28 ?_
        refine lv_bipush (v := 30) hx hb dX7_read_31 (by decide) ?_
        refine lv_icmp_ge (tgt := 213) hx hb dX7_read_33 (by decide) (fun c33 => ?_) (fun c33 => ?_)
        · have c33n : 30 ≤ q.1 := ft_leN (by omega) (by omega) c33
          have hw9 : ([(a0, .inr (7, [.ref r0, .ref r1, .ref r2, .ref r3, .ref r4, .ref r5, .ref r6, .ref r7, .int (nI q.1), .int (sf 9)])), (r0, .inl (cI, 30, .inl (q.2.2 0))), (r1, .inl (cI, 30, .inl (q.2.2 1))), (r2, .inl (cI, 30, .inl (q.2.2 2))), (r3, .inl (cI, 30, .inl (q.2.2 3))), (r4, .inl (cI, 30, .inl (q.2.2 4))), (r5, .inl (cI, 30, .inl (q.2.2 5))), (r6, .inl (cI, 30, .inl (q.2.2 6))), (r7, .inl (cI, 30, .inl (q.2.2 7))), (va, .inl (cI, 460, .inl v)), (s0, .inl (cI, 11, .inl sf))] : va_W) = [(a0, .inr (7, [.ref r0, .ref r1, .ref r2, .ref r3, .ref r4, .ref r5, .ref r6, .ref r7, .int (nI (ftRd v N w (sf 6) (sf 7) (sf 8) ro).1), .int (sf 9)])), (r0, .inl (cI, 30, .inl ((ftRd v N w (sf 6) (sf 7) (sf 8) ro).2.2 0))), (r1, .inl (cI, 30, .inl ((ftRd v N w (sf 6) (sf 7) (sf 8) ro).2.2 1))), (r2, .inl (cI, 30, .inl ((ftRd v N w (sf 6) (sf 7) (sf 8) ro).2.2 2))), (r3, .inl (cI, 30, .inl ((ftRd v N w (sf 6) (sf 7) (sf 8) ro).2.2 3))), (r4, .inl (cI, 30, .inl ((ftRd v N w (sf 6) (sf 7) (sf 8) ro).2.2 4))), (r5, .inl (cI, 30, .inl ((ftRd v N w (sf 6) (sf 7) (sf 8) ro).2.2 5))), (r6, .inl (cI, 30, .inl ((ftRd v N w (sf 6) (sf 7) (sf 8) ro).2.2 6))), (r7, .inl (cI, 30, .inl ((ftRd v N w (sf 6) (sf 7) (sf 8) ro).2.2 7))), (va, .inl (cI, 460, .inl v)), (s0, .inl (cI, 11, .inl sf))] := by first | rw [hres, ftRdL_e (fun h => absurd h.1 (by omega))] | rw [hres, ftRdL_e (fun h => absurd h.2.1 (by omega))] | rw [hres, ftRdL_e (fun h => c38 h.2.2)]
          rw [hw9] at hP hD
          exact W.vret hx hb hr (fun t ht hW => ⟨⟨(), rfl, trivial, by rw [ht]; exact hP, by rw [hAe]; exact hD⟩, by rw [hAe]; exact hS.F ht⟩) hS.2.2 dX7_read_213
        · have c33n : q.1 < 30 := ft_nleN (by omega) (by omega) c33
          refine lv_iload hx hb dX7_read_36 (lv_at hl 4 rfl) ?_
          refine lv_if_ne (tgt := 213) hx hb dX7_read_38 (by decide) (fun c38 => ?_) (fun c38 => ?_)
          · have hw9 : ([(a0, .inr (7, [.ref r0, .ref r1, .ref r2, .ref r3, .ref r4, .ref r5, .ref r6, .ref r7, .int (nI q.1), .int (sf 9)])), (r0, .inl (cI, 30, .inl (q.2.2 0))), (r1, .inl (cI, 30, .inl (q.2.2 1))), (r2, .inl (cI, 30, .inl (q.2.2 2))), (r3, .inl (cI, 30, .inl (q.2.2 3))), (r4, .inl (cI, 30, .inl (q.2.2 4))), (r5, .inl (cI, 30, .inl (q.2.2 5))), (r6, .inl (cI, 30, .inl (q.2.2 6))), (r7, .inl (cI, 30, .inl (q.2.2 7))), (va, .inl (cI, 460, .inl v)), (s0, .inl (cI, 11, .inl sf))] : va_W) = [(a0, .inr (7, [.ref r0, .ref r1, .ref r2, .ref r3, .ref r4, .ref r5, .ref r6, .ref r7, .int (nI (ftRd v N w (sf 6) (sf 7) (sf 8) ro).1), .int (sf 9)])), (r0, .inl (cI, 30, .inl ((ftRd v N w (sf 6) (sf 7) (sf 8) ro).2.2 0))), (r1, .inl (cI, 30, .inl ((ftRd v N w (sf 6) (sf 7) (sf 8) ro).2.2 1))), (r2, .inl (cI, 30, .inl ((ftRd v N w (sf 6) (sf 7) (sf 8) ro).2.2 2))), (r3, .inl (cI, 30, .inl ((ftRd v N w (sf 6) (sf 7) (sf 8) ro).2.2 3))), (r4, .inl (cI, 30, .inl ((ftRd v N w (sf 6) (sf 7) (sf 8) ro).2.2 4))), (r5, .inl (cI, 30, .inl ((ftRd v N w (sf 6) (sf 7) (sf 8) ro).2.2 5))), (r6, .inl (cI, 30, .inl ((ftRd v N w (sf 6) (sf 7) (sf 8) ro).2.2 6))), (r7, .inl (cI, 30, .inl ((ftRd v N w (sf 6) (sf 7) (sf 8) ro).2.2 7))), (va, .inl (cI, 460, .inl v)), (s0, .inl (cI, 11, .inl sf))] := by first | rw [hres, ftRdL_e (fun h => absurd h.1 (by omega))] | rw [hres, ftRdL_e (fun h => absurd h.2.1 (by omega))] | rw [hres, ftRdL_e (fun h => c38 h.2.2)]
            rw [hw9] at hP hD
            exact W.vret hx hb hr (fun t ht hW => ⟨⟨(), rfl, trivial, by rw [ht]; exact hP, by rw [hAe]; exact hD⟩, by rw [hAe]; exact hS.F ht⟩) hS.2.2 dX7_read_213
          · refine lv_aload_n hx hb dX7_read_41 rfl (lv_at hl 1 rfl) ?_
            refine lv_iload hx hb dX7_read_42 (lv_at hl 5 rfl) ?_
            refine ft_csi (r := ftAt 460 v (nI x)) (va_runSN (As := [.ref va, .int (nI x)]) (rest := []) ⟨hx, hb, hml, hown, hts⟩ (c_X10_at l D cI cS va 460 v (nI x) (by first | assumption | omega)) ⟨va_cnB 2 hts gX7_read_X10_at_n40 rfl rfl rfl (hKK.2 _ (List.mem_of_getElem? (i := 22) rfl)) (hts (.initialized RX10) (by decide +kernel)) (by decide +kernel) ⟨Nat.le_of_ble_eq_true rfl, Nat.le_of_ble_eq_true rfl⟩, hts (.static yX10_at) (by decide +kernel), trivial⟩ (ft_preRO hP hKK [9] rfl) rfl rfl hl.1 rfl (lv_room (Nat.le_of_ble_eq_true rfl)) dX7_read_44 ⟨Nat.le_of_ble_eq_true rfl, Nat.le_of_ble_eq_true rfl⟩) ?_
            refine ft_top (y := v x) (ftAt_N (by omega) (by omega)) ?_
            refine lv_aload_n hx hb dX7_read_47 rfl (lv_at hl 1 rfl) ?_
            refine lv_iload hx hb dX7_read_48 (lv_at hl 5 rfl) ?_
            refine lv_iconst (v := 1) hx hb dX7_read_50 (by decide) ?_
            refine lv_isub hx hb dX7_read_51 ?_
            refine ft_top (y := nI (x - 1)) (ft_subN (a := x) (b := 1) (by omega)) ?_
            refine ft_csi (r := ftAt 460 v (nI (x - 1))) (va_runSN (As := [.ref va, .int (nI (x - 1))]) (rest := [.int (v x)]) ⟨hx, hb, hml, hown, hts⟩ (c_X10_at l D cI cS va 460 v (nI (x - 1)) (by first | assumption | omega)) ⟨va_cnB 2 hts gX7_read_X10_at_n40 rfl rfl rfl (hKK.2 _ (List.mem_of_getElem? (i := 22) rfl)) (hts (.initialized RX10) (by decide +kernel)) (by decide +kernel) ⟨Nat.le_of_ble_eq_true rfl, Nat.le_of_ble_eq_true rfl⟩, hts (.static yX10_at) (by decide +kernel), trivial⟩ (ft_preRO hP hKK [9] rfl) rfl rfl hl.1 rfl (lv_room (Nat.le_of_ble_eq_true rfl)) dX7_read_52 ⟨Nat.le_of_ble_eq_true rfl, Nat.le_of_ble_eq_true rfl⟩) ?_
            refine ft_top (y := v (x - 1)) (ftAt_N (by omega) (by omega)) ?_
            refine lv_isub hx hb dX7_read_55 ?_
            refine lv_istore (lv' := [(6, .int ((v x) - (v (x - 1)))), (0, .ref a0), (1, .ref va), (2, .int (nI N)), (3, .ref s0), (4, .int q.2.1), (5, .int (nI x))]) hx hb dX7_read_56 hl (by decide) rfl (fun ls hl => ?_)
            refine lv_iload hx hb dX7_read_58 (lv_at hl 0 rfl) ?_
            refine lv_aload_n hx hb dX7_read_60 rfl (lv_at hl 4 rfl) ?_
            refine lv_bipush (v := 6) hx hb dX7_read_61 (by decide) ?_
            refine ft_csi (r := ftAt 11 sf 6) (va_runSN (As := [.ref s0, .int 6]) (rest := [.int ((v x) - (v (x - 1)))]) ⟨hx, hb, hml, hown, hts⟩ (c_X10_at l D cI cS s0 11 sf 6 (by first | assumption | omega)) ⟨va_cnB 2 hts gX7_read_X10_at_n40 rfl rfl rfl (hKK.2 _ (List.mem_of_getElem? (i := 22) rfl)) (hts (.initialized RX10) (by decide +kernel)) (by decide +kernel) ⟨Nat.le_of_ble_eq_true rfl, Nat.le_of_ble_eq_true rfl⟩, hts (.static yX10_at) (by decide +kernel), trivial⟩ (ft_preRO hP hKK [10] rfl) rfl rfl hl.1 rfl (lv_room (Nat.le_of_ble_eq_true rfl)) dX7_read_63 ⟨Nat.le_of_ble_eq_true rfl, Nat.le_of_ble_eq_true rfl⟩) ?_
            refine ft_top (y := sf 6) (ftAt_N (k := 6) (by omega) (by omega)) ?_
            refine lv_icmp_lt (tgt := 73) hx hb dX7_read_66 (by decide) (fun c66 => ?_) (fun c66 => ?_)
            · refine lv_iconst (v := 0) hx hb dX7_read_73 (by decide) ?_
              refine lv_istore (lv' := [(7, .int 0), (6, .int ((v x) - (v (x - 1)))), (0, .ref a0), (1, .ref va), (2, .int (nI N)), (3, .ref s0), (4, .int q.2.1), (5, .int (nI x))]) hx hb dX7_read_74 hl (by decide) rfl (fun ls hl => ?_)
              refine lv_iload hx hb dX7_read_76 (lv_at hl 0 rfl) ?_
              refine lv_if_ne (tgt := 93) hx hb dX7_read_78 (by decide) (fun c78 => ?_) (fun c78 => ?_)
              · exact absurd rfl c78
              · refine lv_iload hx hb dX7_read_81 (lv_at hl 1 rfl) ?_
                refine lv_ineg hx hb dX7_read_83 ?_
                refine lv_aload_n hx hb dX7_read_84 rfl (lv_at hl 5 rfl) ?_
                refine lv_bipush (v := 7) hx hb dX7_read_85 (by decide) ?_
                refine ft_csi (r := ftAt 11 sf 7) (va_runSN (As := [.ref s0, .int 7]) (rest := [.int (-((v x) - (v (x - 1))))]) ⟨hx, hb, hml, hown, hts⟩ (c_X10_at l D cI cS s0 11 sf 7 (by first | assumption | omega)) ⟨va_cnB 2 hts gX7_read_X10_at_n40 rfl rfl rfl (hKK.2 _ (List.mem_of_getElem? (i := 22) rfl)) (hts (.initialized RX10) (by decide +kernel)) (by decide +kernel) ⟨Nat.le_of_ble_eq_true rfl, Nat.le_of_ble_eq_true rfl⟩, hts (.static yX10_at) (by decide +kernel), trivial⟩ (ft_preRO hP hKK [10] rfl) rfl rfl hl.1 rfl (lv_room (Nat.le_of_ble_eq_true rfl)) dX7_read_87 ⟨Nat.le_of_ble_eq_true rfl, Nat.le_of_ble_eq_true rfl⟩) ?_
                refine ft_top (y := sf 7) (ftAt_N (k := 7) (by omega) (by omega)) ?_
                refine lv_icmp_le (tgt := 207) hx hb dX7_read_90 (by decide) (fun c90 => ?_) (fun c90 => ?_)
                · obtain ⟨q9, hq9⟩ : ∃ q9, q9 = q := ⟨q, rfl⟩
                  have h30 : q.1 < 30 := by omega
                  refine lv_iinc (v := nI (x + 1)) (lv' := [(5, .int (nI (x + 1))), (7, .int 0), (6, .int ((v x) - (v (x - 1)))), (0, .ref a0), (1, .ref va), (2, .int (nI N)), (3, .ref s0), (4, .int q.2.1)]) hx hb dX7_read_207 hl (k := 7) rfl (ft_inc x) (by decide) rfl (fun ls hl => ?_)
                  refine lv_goto (tgt := 21) hx hb dX7_read_210 (by decide) ?_
                  exact ih21 (x + 1) q9 q.2.1 (nI (x + 1)) (nI q.1) (q.2.2 0) (q.2.2 1) (q.2.2 2) (q.2.2 3) (q.2.2 4) (q.2.2 5) (q.2.2 6) (q.2.2 7) (by omega) (by omega) (by omega) (by first | (rw [hq9]; exact hq30) | (rw [hq9]; exact h30)) (by first | (rw [hq9]; exact hsb) | (intro _; rw [hq9]; exact ⟨_, by omega, if_pos rfl⟩)) (by first | (rw [hq9, hres]; exact ftRdL_s hw c24n h30 c38 (Int32.not_le.mpr c66) (Int32.not_lt.mpr c90)) | (rw [hq9, hres]; exact ftRdL_p hw c24n h30 c38 (Int32.not_le.mpr c66) (Int32.not_le.mp c90) (by first | exact (if_pos (Int32.not_le.mp c142)).symm | exact (if_neg (Int32.not_lt.mpr c142)).symm)) | (rw [hq9, hres]; exact ftRdL_r hw c24n h30 c38 (Int32.not_lt.mp c66) (by first | exact (if_pos (Int32.not_le.mp c142)).symm | exact (if_neg (Int32.not_lt.mpr c142)).symm))) (by first | (rw [hq9]; done) | (rw [hq9]; rfl)) (by first | rfl | assumption) (by first | (rw [hq9]; done) | (rw [hq9]; rfl)) (by first | (rw [hq9]; done) | (rw [hq9]; rfl)) (by first | (rw [hq9]; done) | (rw [hq9]; rfl)) (by first | (rw [hq9]; done) | (rw [hq9]; rfl)) (by first | (rw [hq9]; done) | (rw [hq9]; rfl)) (by first | (rw [hq9]; done) | (first | (rw [hq9, ftUpd_same]; rfl) | (rw [hq9, ftUpd_same, ftUpd_at]; rfl))) (by first | (rw [hq9]; done) | (rw [hq9]; rfl)) (by first | (rw [hq9]; done) | (rw [hq9]; rfl)) (by first | (rw [hq9]; done) | (rw [hq9]; rfl)) _ _ hP hD hS ls (lv_sub hl [3, 4, 5, 6, 7, 0] rfl)
                · refine lv_iload hx hb dX7_read_93 (lv_at hl 0 rfl) ?_
                  refine lv_if_eq (tgt := 111) hx hb dX7_read_95 (by decide) (fun c95 => ?_) (fun c95 => ?_)
                  · refine lv_iload hx hb dX7_read_111 (lv_at hl 7 rfl) ?_
                    refine lv_istore (lv' := [(8, .int (nI x)), (7, .int 0), (6, .int ((v x) - (v (x - 1)))), (0, .ref a0), (1, .ref va), (2, .int (nI N)), (3, .ref s0), (4, .int q.2.1), (5, .int (nI x))]) hx hb dX7_read_113 hl (by decide) rfl (fun ls hl => ?_)
                    refine lv_aload_n hx hb dX7_read_115 rfl (lv_at hl 4 rfl) ?_
                    refine lv_iload_n hx hb dX7_read_116 rfl (lv_at hl 5 rfl) ?_
                    refine lv_iload hx hb dX7_read_117 (lv_at hl 0 rfl) ?_
                    refine lv_aload_n hx hb dX7_read_119 rfl (lv_at hl 6 rfl) ?_
                    refine lv_bipush (v := 7) hx hb dX7_read_120 (by decide) ?_
                    refine ft_csi (r := ftAt 11 sf 7) (va_runSN (As := [.ref s0, .int 7]) (rest := [.int (nI x), .int (nI N), .ref va]) ⟨hx, hb, hml, hown, hts⟩ (c_X10_at l D cI cS s0 11 sf 7 (by first | assumption | omega)) ⟨va_cnB 2 hts gX7_read_X10_at_n40 rfl rfl rfl (hKK.2 _ (List.mem_of_getElem? (i := 22) rfl)) (hts (.initialized RX10) (by decide +kernel)) (by decide +kernel) ⟨Nat.le_of_ble_eq_true rfl, Nat.le_of_ble_eq_true rfl⟩, hts (.static yX10_at) (by decide +kernel), trivial⟩ (ft_preRO hP hKK [10] rfl) rfl rfl hl.1 rfl (lv_room (Nat.le_of_ble_eq_true rfl)) dX7_read_122 ⟨Nat.le_of_ble_eq_true rfl, Nat.le_of_ble_eq_true rfl⟩) ?_
                    refine ft_top (y := sf 7) (ftAt_N (k := 7) (by omega) (by omega)) ?_
                    refine ft_csi (r := nI (ftEnd v (sf 7) (N - 1) x)) (va_runS (As := [.ref va, .int (nI N), .int (nI x), .int (sf 7)]) (rest := []) ⟨hx, hb, hml, hown, hts⟩ (c_X7_endFrom l D cI cS va v N x (sf 7) (by first | assumption | omega) (by first | assumption | omega) (by first | assumption | omega)) (va_cwS 4 hts gX7_read_X7_endFrom rfl rfl rfl (by decide +kernel) ⟨Nat.le_of_ble_eq_true rfl, Nat.le_of_ble_eq_true rfl⟩) (ft_preRO hP hKK [9] rfl) rfl rfl hl.1 rfl (lv_room (Nat.le_of_ble_eq_true rfl)) dX7_read_125 ⟨Nat.le_of_ble_eq_true rfl, Nat.le_of_ble_eq_true rfl⟩) ?_
                    have hy1 : ftEnd v (sf 7) (N - 1) x ≤ N - 1 := ftEnd_le _ _ _ _
                    have hy2 : x ≤ ftEnd v (sf 7) (N - 1) x := ftEnd_geX (by omega) (by omega)
                    refine lv_istore (lv' := [(9, .int (nI (ftEnd v (sf 7) (N - 1) x))), (8, .int (nI x)), (7, .int 0), (6, .int ((v x) - (v (x - 1)))), (0, .ref a0), (1, .ref va), (2, .int (nI N)), (3, .ref s0), (4, .int q.2.1), (5, .int (nI x))]) hx hb dX7_read_128 hl (by decide) rfl (fun ls hl => ?_)
                    refine lv_aload_n hx hb dX7_read_130 rfl (lv_at hl 5 rfl) ?_
                    refine lv_iload hx hb dX7_read_131 (lv_at hl 0 rfl) ?_
                    refine ft_csi (r := ftAt 460 v (nI (ftEnd v (sf 7) (N - 1) x))) (va_runSN (As := [.ref va, .int (nI (ftEnd v (sf 7) (N - 1) x))]) (rest := []) ⟨hx, hb, hml, hown, hts⟩ (c_X10_at l D cI cS va 460 v (nI (ftEnd v (sf 7) (N - 1) x)) (by first | assumption | omega)) ⟨va_cnB 2 hts gX7_read_X10_at_n40 rfl rfl rfl (hKK.2 _ (List.mem_of_getElem? (i := 22) rfl)) (hts (.initialized RX10) (by decide +kernel)) (by decide +kernel) ⟨Nat.le_of_ble_eq_true rfl, Nat.le_of_ble_eq_true rfl⟩, hts (.static yX10_at) (by decide +kernel), trivial⟩ (ft_preRO hP hKK [9] rfl) rfl rfl hl.1 rfl (lv_room (Nat.le_of_ble_eq_true rfl)) dX7_read_133 ⟨Nat.le_of_ble_eq_true rfl, Nat.le_of_ble_eq_true rfl⟩) ?_
                    refine ft_top (y := v (ftEnd v (sf 7) (N - 1) x)) (ftAt_N (by omega) (by omega)) ?_
                    refine lv_aload_n hx hb dX7_read_136 rfl (lv_at hl 7 rfl) ?_
                    refine lv_bipush (v := 8) hx hb dX7_read_137 (by decide) ?_
                    refine ft_csi (r := ftAt 11 sf 8) (va_runSN (As := [.ref s0, .int 8]) (rest := [.int (v (ftEnd v (sf 7) (N - 1) x))]) ⟨hx, hb, hml, hown, hts⟩ (c_X10_at l D cI cS s0 11 sf 8 (by first | assumption | omega)) ⟨va_cnB 2 hts gX7_read_X10_at_n40 rfl rfl rfl (hKK.2 _ (List.mem_of_getElem? (i := 22) rfl)) (hts (.initialized RX10) (by decide +kernel)) (by decide +kernel) ⟨Nat.le_of_ble_eq_true rfl, Nat.le_of_ble_eq_true rfl⟩, hts (.static yX10_at) (by decide +kernel), trivial⟩ (ft_preRO hP hKK [10] rfl) rfl rfl hl.1 rfl (lv_room (Nat.le_of_ble_eq_true rfl)) dX7_read_139 ⟨Nat.le_of_ble_eq_true rfl, Nat.le_of_ble_eq_true rfl⟩) ?_
                    refine ft_top (y := sf 8) (ftAt_N (k := 8) (by omega) (by omega)) ?_
                    refine lv_icmp_ge (tgt := 149) hx hb dX7_read_142 (by decide) (fun c142 => ?_) (fun c142 => ?_)
                    · refine lv_iconst (v := 0) hx hb dX7_read_149 (by decide) ?_
                      refine lv_istore (lv' := [(4, .int 0), (9, .int (nI (ftEnd v (sf 7) (N - 1) x))), (8, .int (nI x)), (7, .int 0), (6, .int ((v x) - (v (x - 1)))), (0, .ref a0), (1, .ref va), (2, .int (nI N)), (3, .ref s0), (5, .int (nI x))]) hx hb dX7_read_150 hl (by decide) rfl (fun ls hl => ?_)
                      obtain ⟨q9, hq9⟩ : ∃ q9, q9 = ftRdEv v x (ftEnd v (sf 7) (N - 1) x) 0 0 q := ⟨_, rfl⟩
                      have h30 : q.1 < 30 := by omega
                      refine lv_aload_n hx hb dX7_read_152 rfl (lv_at hl 5 rfl) ?_
                      refine lv_aload_n hx hb dX7_read_153 rfl (lv_at hl 6 rfl) ?_
                      refine lv_iload hx hb dX7_read_154 (lv_at hl 9 rfl) ?_
                      refine lv_iload hx hb dX7_read_156 (lv_at hl 1 rfl) ?_
                      refine lv_iload hx hb dX7_read_158 (lv_at hl 3 rfl) ?_
                      refine ft_cv (wc := [(a0, .inr (7, [.ref r0, .ref r1, .ref r2, .ref r3, .ref r4, .ref r5, .ref r6, .ref r7, .int (nI q.1), .int (sf 9)])), (r0, .inl (cI, 30, .inl (q.2.2 0))), (r1, .inl (cI, 30, .inl (q.2.2 1))), (r2, .inl (cI, 30, .inl (q.2.2 2))), (r3, .inl (cI, 30, .inl (q.2.2 3))), (r4, .inl (cI, 30, .inl (q.2.2 4))), (r5, .inl (cI, 30, .inl (q.2.2 5))), (r6, .inl (cI, 30, .inl (q.2.2 6))), (r7, .inl (cI, 30, .inl (q.2.2 7))), (va, .inl (cI, 460, .inl v))]) (wr := [(s0, .inl (cI, 11, .inl sf))]) (w1 := [(a0, .inr (7, [.ref r0, .ref r1, .ref r2, .ref r3, .ref r4, .ref r5, .ref r6, .ref r7, .int (nI (q.1 + 1)), .int (sf 9)])), (r0, .inl (cI, 30, .inl (upd (q.2.2 0) q.1 (ftEvV v x (ftEnd v (sf 7) (N - 1) x) (ftSb q.2.2 q.1) 0 0)))), (r1, .inl (cI, 30, .inl (upd (q.2.2 1) q.1 (ftEvV v x (ftEnd v (sf 7) (N - 1) x) (ftSb q.2.2 q.1) 0 1)))), (r2, .inl (cI, 30, .inl (upd (q.2.2 2) q.1 (ftEvV v x (ftEnd v (sf 7) (N - 1) x) (ftSb q.2.2 q.1) 0 2)))), (r3, .inl (cI, 30, .inl (upd (q.2.2 3) q.1 (ftEvV v x (ftEnd v (sf 7) (N - 1) x) (ftSb q.2.2 q.1) 0 3)))), (r4, .inl (cI, 30, .inl (upd (q.2.2 4) q.1 (ftEvV v x (ftEnd v (sf 7) (N - 1) x) (ftSb q.2.2 q.1) 0 4)))), (r5, .inl (cI, 30, .inl (upd (q.2.2 5) q.1 (ftEvV v x (ftEnd v (sf 7) (N - 1) x) (ftSb q.2.2 q.1) 0 5)))), (r6, .inl (cI, 30, .inl (upd (q.2.2 6) q.1 (ftEvV v x (ftEnd v (sf 7) (N - 1) x) (ftSb q.2.2 q.1) 0 6)))), (r7, .inl (cI, 30, .inl (upd (q.2.2 7) q.1 (ftEvV v x (ftEnd v (sf 7) (N - 1) x) (ftSb q.2.2 q.1) 0 7)))), (va, .inl (cI, 460, .inl v))]) (ws1 := [(a0, .inr (7, [.ref r0, .ref r1, .ref r2, .ref r3, .ref r4, .ref r5, .ref r6, .ref r7, .int (nI (q.1 + 1)), .int (sf 9)])), (r0, .inl (cI, 30, .inl (upd (q.2.2 0) q.1 (ftEvV v x (ftEnd v (sf 7) (N - 1) x) (ftSb q.2.2 q.1) 0 0)))), (r1, .inl (cI, 30, .inl (upd (q.2.2 1) q.1 (ftEvV v x (ftEnd v (sf 7) (N - 1) x) (ftSb q.2.2 q.1) 0 1)))), (r2, .inl (cI, 30, .inl (upd (q.2.2 2) q.1 (ftEvV v x (ftEnd v (sf 7) (N - 1) x) (ftSb q.2.2 q.1) 0 2)))), (r3, .inl (cI, 30, .inl (upd (q.2.2 3) q.1 (ftEvV v x (ftEnd v (sf 7) (N - 1) x) (ftSb q.2.2 q.1) 0 3)))), (r4, .inl (cI, 30, .inl (upd (q.2.2 4) q.1 (ftEvV v x (ftEnd v (sf 7) (N - 1) x) (ftSb q.2.2 q.1) 0 4)))), (r5, .inl (cI, 30, .inl (upd (q.2.2 5) q.1 (ftEvV v x (ftEnd v (sf 7) (N - 1) x) (ftSb q.2.2 q.1) 0 5)))), (r6, .inl (cI, 30, .inl (upd (q.2.2 6) q.1 (ftEvV v x (ftEnd v (sf 7) (N - 1) x) (ftSb q.2.2 q.1) 0 6)))), (r7, .inl (cI, 30, .inl (upd (q.2.2 7) q.1 (ftEvV v x (ftEnd v (sf 7) (N - 1) x) (ftSb q.2.2 q.1) 0 7)))), (va, .inl (cI, 460, .inl v)), (s0, .inl (cI, 11, .inl sf))]) (va_runV (C := RX7) (As := [.ref va, .int (nI x), .int (nI (ftEnd v (sf 7) (N - 1) x)), .int 0]) (rest := []) ⟨hx, hb, hml, hown, hts⟩ (c_X7_addEvent l D cI cS H.size a0 r0 r1 r2 r3 r4 r5 r6 r7 q.1 (sf 9) q.2.2 va v x (ftEnd v (sf 7) (N - 1) x) 0 (by omega) hx1 hy2 (by omega) hsb) (cwV 4 hts gX7_read_X7_addEvent rfl rfl rfl (by decide +kernel) ⟨Nat.le_of_ble_eq_true rfl, Nat.le_of_ble_eq_true rfl⟩) (ft_preRWV (ci := 7) (q0 := 0) hP hD hKK [0, 1, 2, 3, 4, 5, 6, 7, 8, 9] rfl rfl rfl rfl rfl) rfl rfl hl.1 rfl (lv_room (Nat.le_of_ble_eq_true rfl)) dX7_read_160 ⟨Nat.le_of_ble_eq_true rfl, Nat.le_of_ble_eq_true rfl⟩) hP hD hS hA [0, 1, 2, 3, 4, 5, 6, 7, 8, 9] [10] [1, 2, 3, 4, 5, 6, 7, 8, 9, 10, 0] rfl rfl (by decide) (by decide) (by decide) rfl rfl (fun H locs hP hD hS => ?_)
                      have hP : va_P D vwCl [(a0, .inr (7, [.ref r0, .ref r1, .ref r2, .ref r3, .ref r4, .ref r5, .ref r6, .ref r7, .int (nI (q.1 + 1)), .int (sf 9)])), (r0, .inl (cI, 30, .inl (upd (q.2.2 0) q.1 (ftEvV v x (ftEnd v (sf 7) (N - 1) x) (ftSb q.2.2 q.1) 0 0)))), (r1, .inl (cI, 30, .inl (upd (q.2.2 1) q.1 (ftEvV v x (ftEnd v (sf 7) (N - 1) x) (ftSb q.2.2 q.1) 0 1)))), (r2, .inl (cI, 30, .inl (upd (q.2.2 2) q.1 (ftEvV v x (ftEnd v (sf 7) (N - 1) x) (ftSb q.2.2 q.1) 0 2)))), (r3, .inl (cI, 30, .inl (upd (q.2.2 3) q.1 (ftEvV v x (ftEnd v (sf 7) (N - 1) x) (ftSb q.2.2 q.1) 0 3)))), (r4, .inl (cI, 30, .inl (upd (q.2.2 4) q.1 (ftEvV v x (ftEnd v (sf 7) (N - 1) x) (ftSb q.2.2 q.1) 0 4)))), (r5, .inl (cI, 30, .inl (upd (q.2.2 5) q.1 (ftEvV v x (ftEnd v (sf 7) (N - 1) x) (ftSb q.2.2 q.1) 0 5)))), (r6, .inl (cI, 30, .inl (upd (q.2.2 6) q.1 (ftEvV v x (ftEnd v (sf 7) (N - 1) x) (ftSb q.2.2 q.1) 0 6)))), (r7, .inl (cI, 30, .inl (upd (q.2.2 7) q.1 (ftEvV v x (ftEnd v (sf 7) (N - 1) x) (ftSb q.2.2 q.1) 0 7)))), (va, .inl (cI, 460, .inl v)), (s0, .inl (cI, 11, .inl sf))] H := hP
                      have hD : va_D A [(a0, .inr (7, [.ref r0, .ref r1, .ref r2, .ref r3, .ref r4, .ref r5, .ref r6, .ref r7, .int (nI (q.1 + 1)), .int (sf 9)])), (r0, .inl (cI, 30, .inl (upd (q.2.2 0) q.1 (ftEvV v x (ftEnd v (sf 7) (N - 1) x) (ftSb q.2.2 q.1) 0 0)))), (r1, .inl (cI, 30, .inl (upd (q.2.2 1) q.1 (ftEvV v x (ftEnd v (sf 7) (N - 1) x) (ftSb q.2.2 q.1) 0 1)))), (r2, .inl (cI, 30, .inl (upd (q.2.2 2) q.1 (ftEvV v x (ftEnd v (sf 7) (N - 1) x) (ftSb q.2.2 q.1) 0 2)))), (r3, .inl (cI, 30, .inl (upd (q.2.2 3) q.1 (ftEvV v x (ftEnd v (sf 7) (N - 1) x) (ftSb q.2.2 q.1) 0 3)))), (r4, .inl (cI, 30, .inl (upd (q.2.2 4) q.1 (ftEvV v x (ftEnd v (sf 7) (N - 1) x) (ftSb q.2.2 q.1) 0 4)))), (r5, .inl (cI, 30, .inl (upd (q.2.2 5) q.1 (ftEvV v x (ftEnd v (sf 7) (N - 1) x) (ftSb q.2.2 q.1) 0 5)))), (r6, .inl (cI, 30, .inl (upd (q.2.2 6) q.1 (ftEvV v x (ftEnd v (sf 7) (N - 1) x) (ftSb q.2.2 q.1) 0 6)))), (r7, .inl (cI, 30, .inl (upd (q.2.2 7) q.1 (ftEvV v x (ftEnd v (sf 7) (N - 1) x) (ftSb q.2.2 q.1) 0 7)))), (va, .inl (cI, 460, .inl v)), (s0, .inl (cI, 11, .inl sf))] := hD
                      refine lv_aload_n hx hb dX7_read_163 rfl (lv_at hl 5 rfl) ?_
                      refine va_get (D := D) (ci := 7) (v := .ref r4) (C := RX7) (T := TX7) (N := 10) hx hb hts (by decide +kernel) hown hK hP 0 rfl rfl 4 (by decide) (hts (.fieldLink RX7 24 "FiberTrace$Reading" "kinds" "[I") (by decide +kernel)) (fun _ h9 => h9) rfl dX7_read_164 ?_
                      refine lv_aload_n hx hb dX7_read_167 rfl (lv_at hl 5 rfl) ?_
                      refine va_get (D := D) (ci := 7) (v := .int (nI (q.1 + 1))) (C := RX7) (T := TX7) (N := 10) hx hb hts (by decide +kernel) hown hK hP 0 rfl rfl 8 (by decide) (hts (.fieldLink RX7 36 "FiberTrace$Reading" "size" "I") (by decide +kernel)) (fun _ h9 => h9) rfl dX7_read_168 ?_
                      refine lv_iconst (v := 1) hx hb dX7_read_171 (by decide) ?_
                      refine lv_isub hx hb dX7_read_172 ?_
                      refine ft_top (y := nI ((q.1 + 1) - 1)) (ft_subN (a := q.1 + 1) (b := 1) (by omega)) ?_
                      refine lv_iload hx hb dX7_read_173 (lv_at hl 0 rfl) ?_
                      refine lv_if_eq (tgt := 182) hx hb dX7_read_175 (by decide) (fun c175 => ?_) (fun c175 => ?_)
                      · refine lv_aload_n hx hb dX7_read_182 rfl (lv_at hl 5 rfl) ?_
                        refine va_get (D := D) (ci := 7) (v := .ref r4) (C := RX7) (T := TX7) (N := 10) hx hb hts (by decide +kernel) hown hK hP 0 rfl rfl 4 (by decide) (hts (.fieldLink RX7 24 "FiberTrace$Reading" "kinds" "[I") (by decide +kernel)) (fun _ h9 => h9) rfl dX7_read_183 ?_
                        refine lv_aload_n hx hb dX7_read_186 rfl (lv_at hl 5 rfl) ?_
                        refine va_get (D := D) (ci := 7) (v := .int (nI (q.1 + 1))) (C := RX7) (T := TX7) (N := 10) hx hb hts (by decide +kernel) hown hK hP 0 rfl rfl 8 (by decide) (hts (.fieldLink RX7 36 "FiberTrace$Reading" "size" "I") (by decide +kernel)) (fun _ h9 => h9) rfl dX7_read_187 ?_
                        refine lv_iconst (v := 1) hx hb dX7_read_190 (by decide) ?_
                        refine lv_isub hx hb dX7_read_191 ?_
                        refine ft_top (y := nI ((q.1 + 1) - 1)) (ft_subN (a := q.1 + 1) (b := 1) (by omega)) ?_
                        refine ft_csi (r := ftAt 30 (upd (q.2.2 4) q.1 (ftEvV v x (ftEnd v (sf 7) (N - 1) x) (ftSb q.2.2 q.1) 0 4)) (nI ((q.1 + 1) - 1))) (va_runSN (As := [.ref r4, .int (nI ((q.1 + 1) - 1))]) (rest := [.int (nI ((q.1 + 1) - 1)), .ref r4]) ⟨hx, hb, hml, hown, hts⟩ (c_X10_at l D cI cS r4 30 (upd (q.2.2 4) q.1 (ftEvV v x (ftEnd v (sf 7) (N - 1) x) (ftSb q.2.2 q.1) 0 4)) (nI ((q.1 + 1) - 1)) (by first | assumption | omega)) ⟨va_cnB 2 hts gX7_read_X10_at_n40 rfl rfl rfl (hKK.2 _ (List.mem_of_getElem? (i := 22) rfl)) (hts (.initialized RX10) (by decide +kernel)) (by decide +kernel) ⟨Nat.le_of_ble_eq_true rfl, Nat.le_of_ble_eq_true rfl⟩, hts (.static yX10_at) (by decide +kernel), trivial⟩ (ft_preRO hP hKK [5] rfl) rfl rfl hl.1 rfl (lv_room (Nat.le_of_ble_eq_true rfl)) dX7_read_192 ⟨Nat.le_of_ble_eq_true rfl, Nat.le_of_ble_eq_true rfl⟩) ?_
                        refine ft_top (y := (upd (q.2.2 4) q.1 (ftEvV v x (ftEnd v (sf 7) (N - 1) x) (ftSb q.2.2 q.1) 0 4)) ((q.1 + 1) - 1)) (ftAt_N (by omega) (by omega)) ?_
                        refine ft_cv (wc := [(r4, .inl (cI, 30, .inl (upd (q.2.2 4) q.1 (ftEvV v x (ftEnd v (sf 7) (N - 1) x) (ftSb q.2.2 q.1) 0 4))))]) (wr := [(a0, .inr (7, [.ref r0, .ref r1, .ref r2, .ref r3, .ref r4, .ref r5, .ref r6, .ref r7, .int (nI (q.1 + 1)), .int (sf 9)])), (r0, .inl (cI, 30, .inl (upd (q.2.2 0) q.1 (ftEvV v x (ftEnd v (sf 7) (N - 1) x) (ftSb q.2.2 q.1) 0 0)))), (r1, .inl (cI, 30, .inl (upd (q.2.2 1) q.1 (ftEvV v x (ftEnd v (sf 7) (N - 1) x) (ftSb q.2.2 q.1) 0 1)))), (r2, .inl (cI, 30, .inl (upd (q.2.2 2) q.1 (ftEvV v x (ftEnd v (sf 7) (N - 1) x) (ftSb q.2.2 q.1) 0 2)))), (r3, .inl (cI, 30, .inl (upd (q.2.2 3) q.1 (ftEvV v x (ftEnd v (sf 7) (N - 1) x) (ftSb q.2.2 q.1) 0 3)))), (r5, .inl (cI, 30, .inl (upd (q.2.2 5) q.1 (ftEvV v x (ftEnd v (sf 7) (N - 1) x) (ftSb q.2.2 q.1) 0 5)))), (r6, .inl (cI, 30, .inl (upd (q.2.2 6) q.1 (ftEvV v x (ftEnd v (sf 7) (N - 1) x) (ftSb q.2.2 q.1) 0 6)))), (r7, .inl (cI, 30, .inl (upd (q.2.2 7) q.1 (ftEvV v x (ftEnd v (sf 7) (N - 1) x) (ftSb q.2.2 q.1) 0 7)))), (va, .inl (cI, 460, .inl v)), (s0, .inl (cI, 11, .inl sf))]) (w1 := [(r4, .inl (cI, 30, .inl (ftPut 30 (upd (q.2.2 4) q.1 (ftEvV v x (ftEnd v (sf 7) (N - 1) x) (ftSb q.2.2 q.1) 0 4)) (nI ((q.1 + 1) - 1)) ((upd (q.2.2 4) q.1 (ftEvV v x (ftEnd v (sf 7) (N - 1) x) (ftSb q.2.2 q.1) 0 4)) ((q.1 + 1) - 1)))))]) (ws1 := [(a0, .inr (7, [.ref r0, .ref r1, .ref r2, .ref r3, .ref r4, .ref r5, .ref r6, .ref r7, .int (nI (q.1 + 1)), .int (sf 9)])), (r0, .inl (cI, 30, .inl (upd (q.2.2 0) q.1 (ftEvV v x (ftEnd v (sf 7) (N - 1) x) (ftSb q.2.2 q.1) 0 0)))), (r1, .inl (cI, 30, .inl (upd (q.2.2 1) q.1 (ftEvV v x (ftEnd v (sf 7) (N - 1) x) (ftSb q.2.2 q.1) 0 1)))), (r2, .inl (cI, 30, .inl (upd (q.2.2 2) q.1 (ftEvV v x (ftEnd v (sf 7) (N - 1) x) (ftSb q.2.2 q.1) 0 2)))), (r3, .inl (cI, 30, .inl (upd (q.2.2 3) q.1 (ftEvV v x (ftEnd v (sf 7) (N - 1) x) (ftSb q.2.2 q.1) 0 3)))), (r4, .inl (cI, 30, .inl (ftPut 30 (upd (q.2.2 4) q.1 (ftEvV v x (ftEnd v (sf 7) (N - 1) x) (ftSb q.2.2 q.1) 0 4)) (nI ((q.1 + 1) - 1)) ((upd (q.2.2 4) q.1 (ftEvV v x (ftEnd v (sf 7) (N - 1) x) (ftSb q.2.2 q.1) 0 4)) ((q.1 + 1) - 1))))), (r5, .inl (cI, 30, .inl (upd (q.2.2 5) q.1 (ftEvV v x (ftEnd v (sf 7) (N - 1) x) (ftSb q.2.2 q.1) 0 5)))), (r6, .inl (cI, 30, .inl (upd (q.2.2 6) q.1 (ftEvV v x (ftEnd v (sf 7) (N - 1) x) (ftSb q.2.2 q.1) 0 6)))), (r7, .inl (cI, 30, .inl (upd (q.2.2 7) q.1 (ftEvV v x (ftEnd v (sf 7) (N - 1) x) (ftSb q.2.2 q.1) 0 7)))), (va, .inl (cI, 460, .inl v)), (s0, .inl (cI, 11, .inl sf))]) (va_runSN (As := [.ref r4, .int (nI ((q.1 + 1) - 1)), .int ((upd (q.2.2 4) q.1 (ftEvV v x (ftEnd v (sf 7) (N - 1) x) (ftSb q.2.2 q.1) 0 4)) ((q.1 + 1) - 1))]) (rest := []) ⟨hx, hb, hml, hown, hts⟩ (c_X10_put l D cI cS H.size r4 30 (upd (q.2.2 4) q.1 (ftEvV v x (ftEnd v (sf 7) (N - 1) x) (ftSb q.2.2 q.1) 0 4)) (nI ((q.1 + 1) - 1)) ((upd (q.2.2 4) q.1 (ftEvV v x (ftEnd v (sf 7) (N - 1) x) (ftSb q.2.2 q.1) 0 4)) ((q.1 + 1) - 1)) (by first | assumption | omega)) ⟨va_cnB 3 hts gX7_read_X10_put_n55 rfl rfl rfl (hKK.2 _ (List.mem_of_getElem? (i := 23) rfl)) (hts (.initialized RX10) (by decide +kernel)) (by decide +kernel) ⟨Nat.le_of_ble_eq_true rfl, Nat.le_of_ble_eq_true rfl⟩, hts (.static yX10_put) (by decide +kernel), trivial⟩ (ft_preRW hP hD hKK [5] rfl rfl rfl) rfl rfl hl.1 rfl (lv_room (Nat.le_of_ble_eq_true rfl)) dX7_read_195 ⟨Nat.le_of_ble_eq_true rfl, Nat.le_of_ble_eq_true rfl⟩) hP hD hS hA [5] [0, 1, 2, 3, 4, 6, 7, 8, 9, 10] [0, 1, 2, 3, 4, 10, 5, 6, 7, 8, 9] rfl rfl (by decide) (by decide) (by decide) rfl rfl (fun H locs hP hD hS => ?_)
                        rw [ftPut_N (k := (q.1 + 1) - 1) (by omega) (by omega)] at hP hD
                        have hP : va_P D vwCl [(a0, .inr (7, [.ref r0, .ref r1, .ref r2, .ref r3, .ref r4, .ref r5, .ref r6, .ref r7, .int (nI (q.1 + 1)), .int (sf 9)])), (r0, .inl (cI, 30, .inl (upd (q.2.2 0) q.1 (ftEvV v x (ftEnd v (sf 7) (N - 1) x) (ftSb q.2.2 q.1) 0 0)))), (r1, .inl (cI, 30, .inl (upd (q.2.2 1) q.1 (ftEvV v x (ftEnd v (sf 7) (N - 1) x) (ftSb q.2.2 q.1) 0 1)))), (r2, .inl (cI, 30, .inl (upd (q.2.2 2) q.1 (ftEvV v x (ftEnd v (sf 7) (N - 1) x) (ftSb q.2.2 q.1) 0 2)))), (r3, .inl (cI, 30, .inl (upd (q.2.2 3) q.1 (ftEvV v x (ftEnd v (sf 7) (N - 1) x) (ftSb q.2.2 q.1) 0 3)))), (r4, .inl (cI, 30, .inl (upd (upd (q.2.2 4) q.1 (ftEvV v x (ftEnd v (sf 7) (N - 1) x) (ftSb q.2.2 q.1) 0 4)) ((q.1 + 1) - 1) ((upd (q.2.2 4) q.1 (ftEvV v x (ftEnd v (sf 7) (N - 1) x) (ftSb q.2.2 q.1) 0 4)) ((q.1 + 1) - 1))))), (r5, .inl (cI, 30, .inl (upd (q.2.2 5) q.1 (ftEvV v x (ftEnd v (sf 7) (N - 1) x) (ftSb q.2.2 q.1) 0 5)))), (r6, .inl (cI, 30, .inl (upd (q.2.2 6) q.1 (ftEvV v x (ftEnd v (sf 7) (N - 1) x) (ftSb q.2.2 q.1) 0 6)))), (r7, .inl (cI, 30, .inl (upd (q.2.2 7) q.1 (ftEvV v x (ftEnd v (sf 7) (N - 1) x) (ftSb q.2.2 q.1) 0 7)))), (va, .inl (cI, 460, .inl v)), (s0, .inl (cI, 11, .inl sf))] H := hP
                        have hD : va_D A [(a0, .inr (7, [.ref r0, .ref r1, .ref r2, .ref r3, .ref r4, .ref r5, .ref r6, .ref r7, .int (nI (q.1 + 1)), .int (sf 9)])), (r0, .inl (cI, 30, .inl (upd (q.2.2 0) q.1 (ftEvV v x (ftEnd v (sf 7) (N - 1) x) (ftSb q.2.2 q.1) 0 0)))), (r1, .inl (cI, 30, .inl (upd (q.2.2 1) q.1 (ftEvV v x (ftEnd v (sf 7) (N - 1) x) (ftSb q.2.2 q.1) 0 1)))), (r2, .inl (cI, 30, .inl (upd (q.2.2 2) q.1 (ftEvV v x (ftEnd v (sf 7) (N - 1) x) (ftSb q.2.2 q.1) 0 2)))), (r3, .inl (cI, 30, .inl (upd (q.2.2 3) q.1 (ftEvV v x (ftEnd v (sf 7) (N - 1) x) (ftSb q.2.2 q.1) 0 3)))), (r4, .inl (cI, 30, .inl (upd (upd (q.2.2 4) q.1 (ftEvV v x (ftEnd v (sf 7) (N - 1) x) (ftSb q.2.2 q.1) 0 4)) ((q.1 + 1) - 1) ((upd (q.2.2 4) q.1 (ftEvV v x (ftEnd v (sf 7) (N - 1) x) (ftSb q.2.2 q.1) 0 4)) ((q.1 + 1) - 1))))), (r5, .inl (cI, 30, .inl (upd (q.2.2 5) q.1 (ftEvV v x (ftEnd v (sf 7) (N - 1) x) (ftSb q.2.2 q.1) 0 5)))), (r6, .inl (cI, 30, .inl (upd (q.2.2 6) q.1 (ftEvV v x (ftEnd v (sf 7) (N - 1) x) (ftSb q.2.2 q.1) 0 6)))), (r7, .inl (cI, 30, .inl (upd (q.2.2 7) q.1 (ftEvV v x (ftEnd v (sf 7) (N - 1) x) (ftSb q.2.2 q.1) 0 7)))), (va, .inl (cI, 460, .inl v)), (s0, .inl (cI, 11, .inl sf))] := hD
                        refine lv_iload hx hb dX7_read_198 (lv_at hl 9 rfl) ?_
                        refine lv_iload hx hb dX7_read_200 (lv_at hl 1 rfl) ?_
                        refine va_mmax hx hb (hml.trans hl.1.symm) hown (hts (.methodLink RX7 59 Lib.Math.max.name) (by decide +kernel)) (hts (.static Lib.Math.max.name) (by decide +kernel)) (hts (.initialized "java/lang/Math") (by decide +kernel)) (hts (.code Lib.Math.max.name Lib.Math.max.code 2 (some .int)) (by decide +kernel)) (Nat.le_of_ble_eq_true rfl) (Nat.le_of_ble_eq_true rfl) (Nat.le_of_ble_eq_true rfl) (Nat.le_of_ble_eq_true rfl) dX7_read_202 ?_
                        refine ft_top (y := ftMax (nI x) (nI (ftEnd v (sf 7) (N - 1) x))) rfl ?_
                        refine ft_top (y := nI (ftEnd v (sf 7) (N - 1) x)) (ft_maxN (by omega) (by omega)) ?_
                        refine lv_istore (lv' := [(5, .int (nI (ftEnd v (sf 7) (N - 1) x))), (4, .int 0), (9, .int (nI (ftEnd v (sf 7) (N - 1) x))), (8, .int (nI x)), (7, .int 0), (6, .int ((v x) - (v (x - 1)))), (0, .ref a0), (1, .ref va), (2, .int (nI N)), (3, .ref s0)]) hx hb dX7_read_205 hl (by decide) rfl (fun ls hl => ?_)
                        refine lv_iinc (v := nI (ftEnd v (sf 7) (N - 1) x + 1)) (lv' := [(5, .int (nI (ftEnd v (sf 7) (N - 1) x + 1))), (4, .int 0), (9, .int (nI (ftEnd v (sf 7) (N - 1) x))), (8, .int (nI x)), (7, .int 0), (6, .int ((v x) - (v (x - 1)))), (0, .ref a0), (1, .ref va), (2, .int (nI N)), (3, .ref s0)]) hx hb dX7_read_207 hl (k := 0) rfl (ft_inc (ftEnd v (sf 7) (N - 1) x)) (by decide) rfl (fun ls hl => ?_)
                        refine lv_goto (tgt := 21) hx hb dX7_read_210 (by decide) ?_
                        exact ih21 (ftEnd v (sf 7) (N - 1) x + 1) q9 0 (nI (ftEnd v (sf 7) (N - 1) x + 1)) (nI (q.1 + 1)) (upd (q.2.2 0) q.1 (ftEvV v x (ftEnd v (sf 7) (N - 1) x) (ftSb q.2.2 q.1) 0 0)) (upd (q.2.2 1) q.1 (ftEvV v x (ftEnd v (sf 7) (N - 1) x) (ftSb q.2.2 q.1) 0 1)) (upd (q.2.2 2) q.1 (ftEvV v x (ftEnd v (sf 7) (N - 1) x) (ftSb q.2.2 q.1) 0 2)) (upd (q.2.2 3) q.1 (ftEvV v x (ftEnd v (sf 7) (N - 1) x) (ftSb q.2.2 q.1) 0 3)) (upd (upd (q.2.2 4) q.1 (ftEvV v x (ftEnd v (sf 7) (N - 1) x) (ftSb q.2.2 q.1) 0 4)) ((q.1 + 1) - 1) ((upd (q.2.2 4) q.1 (ftEvV v x (ftEnd v (sf 7) (N - 1) x) (ftSb q.2.2 q.1) 0 4)) ((q.1 + 1) - 1))) (upd (q.2.2 5) q.1 (ftEvV v x (ftEnd v (sf 7) (N - 1) x) (ftSb q.2.2 q.1) 0 5)) (upd (q.2.2 6) q.1 (ftEvV v x (ftEnd v (sf 7) (N - 1) x) (ftSb q.2.2 q.1) 0 6)) (upd (q.2.2 7) q.1 (ftEvV v x (ftEnd v (sf 7) (N - 1) x) (ftSb q.2.2 q.1) 0 7)) (by omega) (by omega) (by omega) (by first | (rw [hq9]; exact hq30) | (rw [hq9]; exact h30)) (by first | (rw [hq9]; exact hsb) | (intro _; rw [hq9]; exact ⟨_, by omega, if_pos rfl⟩)) (by first | (rw [hq9, hres]; exact ftRdL_s hw c24n h30 c38 (Int32.not_le.mpr c66) (Int32.not_lt.mpr c90)) | (rw [hq9, hres]; exact ftRdL_p hw c24n h30 c38 (Int32.not_le.mpr c66) (Int32.not_le.mp c90) (by first | exact (if_pos (Int32.not_le.mp c142)).symm | exact (if_neg (Int32.not_lt.mpr c142)).symm)) | (rw [hq9, hres]; exact ftRdL_r hw c24n h30 c38 (Int32.not_lt.mp c66) (by first | exact (if_pos (Int32.not_le.mp c142)).symm | exact (if_neg (Int32.not_lt.mpr c142)).symm))) (by first | (rw [hq9]; done) | (rw [hq9]; rfl)) (by first | rfl | assumption) (by first | (rw [hq9]; done) | (rw [hq9]; rfl)) (by first | (rw [hq9]; done) | (rw [hq9]; rfl)) (by first | (rw [hq9]; done) | (rw [hq9]; rfl)) (by first | (rw [hq9]; done) | (rw [hq9]; rfl)) (by first | (rw [hq9]; done) | (rw [hq9]; rfl)) (by first | (rw [hq9]; done) | (first | (rw [hq9, ftUpd_same]; rfl) | (rw [hq9, ftUpd_same, ftUpd_at]; rfl))) (by first | (rw [hq9]; done) | (rw [hq9]; rfl)) (by first | (rw [hq9]; done) | (rw [hq9]; rfl)) (by first | (rw [hq9]; done) | (rw [hq9]; rfl)) _ _ hP hD hS ls (lv_sub hl [6, 7, 8, 9, 1, 0] rfl)
                      · exact absurd rfl c175
                    · refine lv_iconst (v := 1) hx hb dX7_read_145 (by decide) ?_
                      refine lv_goto (tgt := 150) hx hb dX7_read_146 (by decide) ?_
                      refine lv_istore (lv' := [(4, .int 1), (9, .int (nI (ftEnd v (sf 7) (N - 1) x))), (8, .int (nI x)), (7, .int 0), (6, .int ((v x) - (v (x - 1)))), (0, .ref a0), (1, .ref va), (2, .int (nI N)), (3, .ref s0), (5, .int (nI x))]) hx hb dX7_read_150 hl (by decide) rfl (fun ls hl => ?_)
                      obtain ⟨q9, hq9⟩ : ∃ q9, q9 = ftRdEv v x (ftEnd v (sf 7) (N - 1) x) 0 1 q := ⟨_, rfl⟩
                      have h30 : q.1 < 30 := by omega
                      refine lv_aload_n hx hb dX7_read_152 rfl (lv_at hl 5 rfl) ?_
                      refine lv_aload_n hx hb dX7_read_153 rfl (lv_at hl 6 rfl) ?_
                      refine lv_iload hx hb dX7_read_154 (lv_at hl 9 rfl) ?_
                      refine lv_iload hx hb dX7_read_156 (lv_at hl 1 rfl) ?_
                      refine lv_iload hx hb dX7_read_158 (lv_at hl 3 rfl) ?_
                      refine ft_cv (wc := [(a0, .inr (7, [.ref r0, .ref r1, .ref r2, .ref r3, .ref r4, .ref r5, .ref r6, .ref r7, .int (nI q.1), .int (sf 9)])), (r0, .inl (cI, 30, .inl (q.2.2 0))), (r1, .inl (cI, 30, .inl (q.2.2 1))), (r2, .inl (cI, 30, .inl (q.2.2 2))), (r3, .inl (cI, 30, .inl (q.2.2 3))), (r4, .inl (cI, 30, .inl (q.2.2 4))), (r5, .inl (cI, 30, .inl (q.2.2 5))), (r6, .inl (cI, 30, .inl (q.2.2 6))), (r7, .inl (cI, 30, .inl (q.2.2 7))), (va, .inl (cI, 460, .inl v))]) (wr := [(s0, .inl (cI, 11, .inl sf))]) (w1 := [(a0, .inr (7, [.ref r0, .ref r1, .ref r2, .ref r3, .ref r4, .ref r5, .ref r6, .ref r7, .int (nI (q.1 + 1)), .int (sf 9)])), (r0, .inl (cI, 30, .inl (upd (q.2.2 0) q.1 (ftEvV v x (ftEnd v (sf 7) (N - 1) x) (ftSb q.2.2 q.1) 0 0)))), (r1, .inl (cI, 30, .inl (upd (q.2.2 1) q.1 (ftEvV v x (ftEnd v (sf 7) (N - 1) x) (ftSb q.2.2 q.1) 0 1)))), (r2, .inl (cI, 30, .inl (upd (q.2.2 2) q.1 (ftEvV v x (ftEnd v (sf 7) (N - 1) x) (ftSb q.2.2 q.1) 0 2)))), (r3, .inl (cI, 30, .inl (upd (q.2.2 3) q.1 (ftEvV v x (ftEnd v (sf 7) (N - 1) x) (ftSb q.2.2 q.1) 0 3)))), (r4, .inl (cI, 30, .inl (upd (q.2.2 4) q.1 (ftEvV v x (ftEnd v (sf 7) (N - 1) x) (ftSb q.2.2 q.1) 0 4)))), (r5, .inl (cI, 30, .inl (upd (q.2.2 5) q.1 (ftEvV v x (ftEnd v (sf 7) (N - 1) x) (ftSb q.2.2 q.1) 0 5)))), (r6, .inl (cI, 30, .inl (upd (q.2.2 6) q.1 (ftEvV v x (ftEnd v (sf 7) (N - 1) x) (ftSb q.2.2 q.1) 0 6)))), (r7, .inl (cI, 30, .inl (upd (q.2.2 7) q.1 (ftEvV v x (ftEnd v (sf 7) (N - 1) x) (ftSb q.2.2 q.1) 0 7)))), (va, .inl (cI, 460, .inl v))]) (ws1 := [(a0, .inr (7, [.ref r0, .ref r1, .ref r2, .ref r3, .ref r4, .ref r5, .ref r6, .ref r7, .int (nI (q.1 + 1)), .int (sf 9)])), (r0, .inl (cI, 30, .inl (upd (q.2.2 0) q.1 (ftEvV v x (ftEnd v (sf 7) (N - 1) x) (ftSb q.2.2 q.1) 0 0)))), (r1, .inl (cI, 30, .inl (upd (q.2.2 1) q.1 (ftEvV v x (ftEnd v (sf 7) (N - 1) x) (ftSb q.2.2 q.1) 0 1)))), (r2, .inl (cI, 30, .inl (upd (q.2.2 2) q.1 (ftEvV v x (ftEnd v (sf 7) (N - 1) x) (ftSb q.2.2 q.1) 0 2)))), (r3, .inl (cI, 30, .inl (upd (q.2.2 3) q.1 (ftEvV v x (ftEnd v (sf 7) (N - 1) x) (ftSb q.2.2 q.1) 0 3)))), (r4, .inl (cI, 30, .inl (upd (q.2.2 4) q.1 (ftEvV v x (ftEnd v (sf 7) (N - 1) x) (ftSb q.2.2 q.1) 0 4)))), (r5, .inl (cI, 30, .inl (upd (q.2.2 5) q.1 (ftEvV v x (ftEnd v (sf 7) (N - 1) x) (ftSb q.2.2 q.1) 0 5)))), (r6, .inl (cI, 30, .inl (upd (q.2.2 6) q.1 (ftEvV v x (ftEnd v (sf 7) (N - 1) x) (ftSb q.2.2 q.1) 0 6)))), (r7, .inl (cI, 30, .inl (upd (q.2.2 7) q.1 (ftEvV v x (ftEnd v (sf 7) (N - 1) x) (ftSb q.2.2 q.1) 0 7)))), (va, .inl (cI, 460, .inl v)), (s0, .inl (cI, 11, .inl sf))]) (va_runV (C := RX7) (As := [.ref va, .int (nI x), .int (nI (ftEnd v (sf 7) (N - 1) x)), .int 0]) (rest := []) ⟨hx, hb, hml, hown, hts⟩ (c_X7_addEvent l D cI cS H.size a0 r0 r1 r2 r3 r4 r5 r6 r7 q.1 (sf 9) q.2.2 va v x (ftEnd v (sf 7) (N - 1) x) 0 (by omega) hx1 hy2 (by omega) hsb) (cwV 4 hts gX7_read_X7_addEvent rfl rfl rfl (by decide +kernel) ⟨Nat.le_of_ble_eq_true rfl, Nat.le_of_ble_eq_true rfl⟩) (ft_preRWV (ci := 7) (q0 := 0) hP hD hKK [0, 1, 2, 3, 4, 5, 6, 7, 8, 9] rfl rfl rfl rfl rfl) rfl rfl hl.1 rfl (lv_room (Nat.le_of_ble_eq_true rfl)) dX7_read_160 ⟨Nat.le_of_ble_eq_true rfl, Nat.le_of_ble_eq_true rfl⟩) hP hD hS hA [0, 1, 2, 3, 4, 5, 6, 7, 8, 9] [10] [1, 2, 3, 4, 5, 6, 7, 8, 9, 10, 0] rfl rfl (by decide) (by decide) (by decide) rfl rfl (fun H locs hP hD hS => ?_)
                      have hP : va_P D vwCl [(a0, .inr (7, [.ref r0, .ref r1, .ref r2, .ref r3, .ref r4, .ref r5, .ref r6, .ref r7, .int (nI (q.1 + 1)), .int (sf 9)])), (r0, .inl (cI, 30, .inl (upd (q.2.2 0) q.1 (ftEvV v x (ftEnd v (sf 7) (N - 1) x) (ftSb q.2.2 q.1) 0 0)))), (r1, .inl (cI, 30, .inl (upd (q.2.2 1) q.1 (ftEvV v x (ftEnd v (sf 7) (N - 1) x) (ftSb q.2.2 q.1) 0 1)))), (r2, .inl (cI, 30, .inl (upd (q.2.2 2) q.1 (ftEvV v x (ftEnd v (sf 7) (N - 1) x) (ftSb q.2.2 q.1) 0 2)))), (r3, .inl (cI, 30, .inl (upd (q.2.2 3) q.1 (ftEvV v x (ftEnd v (sf 7) (N - 1) x) (ftSb q.2.2 q.1) 0 3)))), (r4, .inl (cI, 30, .inl (upd (q.2.2 4) q.1 (ftEvV v x (ftEnd v (sf 7) (N - 1) x) (ftSb q.2.2 q.1) 0 4)))), (r5, .inl (cI, 30, .inl (upd (q.2.2 5) q.1 (ftEvV v x (ftEnd v (sf 7) (N - 1) x) (ftSb q.2.2 q.1) 0 5)))), (r6, .inl (cI, 30, .inl (upd (q.2.2 6) q.1 (ftEvV v x (ftEnd v (sf 7) (N - 1) x) (ftSb q.2.2 q.1) 0 6)))), (r7, .inl (cI, 30, .inl (upd (q.2.2 7) q.1 (ftEvV v x (ftEnd v (sf 7) (N - 1) x) (ftSb q.2.2 q.1) 0 7)))), (va, .inl (cI, 460, .inl v)), (s0, .inl (cI, 11, .inl sf))] H := hP
                      have hD : va_D A [(a0, .inr (7, [.ref r0, .ref r1, .ref r2, .ref r3, .ref r4, .ref r5, .ref r6, .ref r7, .int (nI (q.1 + 1)), .int (sf 9)])), (r0, .inl (cI, 30, .inl (upd (q.2.2 0) q.1 (ftEvV v x (ftEnd v (sf 7) (N - 1) x) (ftSb q.2.2 q.1) 0 0)))), (r1, .inl (cI, 30, .inl (upd (q.2.2 1) q.1 (ftEvV v x (ftEnd v (sf 7) (N - 1) x) (ftSb q.2.2 q.1) 0 1)))), (r2, .inl (cI, 30, .inl (upd (q.2.2 2) q.1 (ftEvV v x (ftEnd v (sf 7) (N - 1) x) (ftSb q.2.2 q.1) 0 2)))), (r3, .inl (cI, 30, .inl (upd (q.2.2 3) q.1 (ftEvV v x (ftEnd v (sf 7) (N - 1) x) (ftSb q.2.2 q.1) 0 3)))), (r4, .inl (cI, 30, .inl (upd (q.2.2 4) q.1 (ftEvV v x (ftEnd v (sf 7) (N - 1) x) (ftSb q.2.2 q.1) 0 4)))), (r5, .inl (cI, 30, .inl (upd (q.2.2 5) q.1 (ftEvV v x (ftEnd v (sf 7) (N - 1) x) (ftSb q.2.2 q.1) 0 5)))), (r6, .inl (cI, 30, .inl (upd (q.2.2 6) q.1 (ftEvV v x (ftEnd v (sf 7) (N - 1) x) (ftSb q.2.2 q.1) 0 6)))), (r7, .inl (cI, 30, .inl (upd (q.2.2 7) q.1 (ftEvV v x (ftEnd v (sf 7) (N - 1) x) (ftSb q.2.2 q.1) 0 7)))), (va, .inl (cI, 460, .inl v)), (s0, .inl (cI, 11, .inl sf))] := hD
                      refine lv_aload_n hx hb dX7_read_163 rfl (lv_at hl 5 rfl) ?_
                      refine va_get (D := D) (ci := 7) (v := .ref r4) (C := RX7) (T := TX7) (N := 10) hx hb hts (by decide +kernel) hown hK hP 0 rfl rfl 4 (by decide) (hts (.fieldLink RX7 24 "FiberTrace$Reading" "kinds" "[I") (by decide +kernel)) (fun _ h9 => h9) rfl dX7_read_164 ?_
                      refine lv_aload_n hx hb dX7_read_167 rfl (lv_at hl 5 rfl) ?_
                      refine va_get (D := D) (ci := 7) (v := .int (nI (q.1 + 1))) (C := RX7) (T := TX7) (N := 10) hx hb hts (by decide +kernel) hown hK hP 0 rfl rfl 8 (by decide) (hts (.fieldLink RX7 36 "FiberTrace$Reading" "size" "I") (by decide +kernel)) (fun _ h9 => h9) rfl dX7_read_168 ?_
                      refine lv_iconst (v := 1) hx hb dX7_read_171 (by decide) ?_
                      refine lv_isub hx hb dX7_read_172 ?_
                      refine ft_top (y := nI ((q.1 + 1) - 1)) (ft_subN (a := q.1 + 1) (b := 1) (by omega)) ?_
                      refine lv_iload hx hb dX7_read_173 (lv_at hl 0 rfl) ?_
                      refine lv_if_eq (tgt := 182) hx hb dX7_read_175 (by decide) (fun c175 => ?_) (fun c175 => ?_)
                      · exact absurd c175 (by decide)
                      · refine lv_iconst (v := 3) hx hb dX7_read_178 (by decide) ?_
                        refine lv_goto (tgt := 195) hx hb dX7_read_179 (by decide) ?_
                        refine ft_cv (wc := [(r4, .inl (cI, 30, .inl (upd (q.2.2 4) q.1 (ftEvV v x (ftEnd v (sf 7) (N - 1) x) (ftSb q.2.2 q.1) 0 4))))]) (wr := [(a0, .inr (7, [.ref r0, .ref r1, .ref r2, .ref r3, .ref r4, .ref r5, .ref r6, .ref r7, .int (nI (q.1 + 1)), .int (sf 9)])), (r0, .inl (cI, 30, .inl (upd (q.2.2 0) q.1 (ftEvV v x (ftEnd v (sf 7) (N - 1) x) (ftSb q.2.2 q.1) 0 0)))), (r1, .inl (cI, 30, .inl (upd (q.2.2 1) q.1 (ftEvV v x (ftEnd v (sf 7) (N - 1) x) (ftSb q.2.2 q.1) 0 1)))), (r2, .inl (cI, 30, .inl (upd (q.2.2 2) q.1 (ftEvV v x (ftEnd v (sf 7) (N - 1) x) (ftSb q.2.2 q.1) 0 2)))), (r3, .inl (cI, 30, .inl (upd (q.2.2 3) q.1 (ftEvV v x (ftEnd v (sf 7) (N - 1) x) (ftSb q.2.2 q.1) 0 3)))), (r5, .inl (cI, 30, .inl (upd (q.2.2 5) q.1 (ftEvV v x (ftEnd v (sf 7) (N - 1) x) (ftSb q.2.2 q.1) 0 5)))), (r6, .inl (cI, 30, .inl (upd (q.2.2 6) q.1 (ftEvV v x (ftEnd v (sf 7) (N - 1) x) (ftSb q.2.2 q.1) 0 6)))), (r7, .inl (cI, 30, .inl (upd (q.2.2 7) q.1 (ftEvV v x (ftEnd v (sf 7) (N - 1) x) (ftSb q.2.2 q.1) 0 7)))), (va, .inl (cI, 460, .inl v)), (s0, .inl (cI, 11, .inl sf))]) (w1 := [(r4, .inl (cI, 30, .inl (ftPut 30 (upd (q.2.2 4) q.1 (ftEvV v x (ftEnd v (sf 7) (N - 1) x) (ftSb q.2.2 q.1) 0 4)) (nI ((q.1 + 1) - 1)) 3)))]) (ws1 := [(a0, .inr (7, [.ref r0, .ref r1, .ref r2, .ref r3, .ref r4, .ref r5, .ref r6, .ref r7, .int (nI (q.1 + 1)), .int (sf 9)])), (r0, .inl (cI, 30, .inl (upd (q.2.2 0) q.1 (ftEvV v x (ftEnd v (sf 7) (N - 1) x) (ftSb q.2.2 q.1) 0 0)))), (r1, .inl (cI, 30, .inl (upd (q.2.2 1) q.1 (ftEvV v x (ftEnd v (sf 7) (N - 1) x) (ftSb q.2.2 q.1) 0 1)))), (r2, .inl (cI, 30, .inl (upd (q.2.2 2) q.1 (ftEvV v x (ftEnd v (sf 7) (N - 1) x) (ftSb q.2.2 q.1) 0 2)))), (r3, .inl (cI, 30, .inl (upd (q.2.2 3) q.1 (ftEvV v x (ftEnd v (sf 7) (N - 1) x) (ftSb q.2.2 q.1) 0 3)))), (r4, .inl (cI, 30, .inl (ftPut 30 (upd (q.2.2 4) q.1 (ftEvV v x (ftEnd v (sf 7) (N - 1) x) (ftSb q.2.2 q.1) 0 4)) (nI ((q.1 + 1) - 1)) 3))), (r5, .inl (cI, 30, .inl (upd (q.2.2 5) q.1 (ftEvV v x (ftEnd v (sf 7) (N - 1) x) (ftSb q.2.2 q.1) 0 5)))), (r6, .inl (cI, 30, .inl (upd (q.2.2 6) q.1 (ftEvV v x (ftEnd v (sf 7) (N - 1) x) (ftSb q.2.2 q.1) 0 6)))), (r7, .inl (cI, 30, .inl (upd (q.2.2 7) q.1 (ftEvV v x (ftEnd v (sf 7) (N - 1) x) (ftSb q.2.2 q.1) 0 7)))), (va, .inl (cI, 460, .inl v)), (s0, .inl (cI, 11, .inl sf))]) (va_runSN (As := [.ref r4, .int (nI ((q.1 + 1) - 1)), .int 3]) (rest := []) ⟨hx, hb, hml, hown, hts⟩ (c_X10_put l D cI cS H.size r4 30 (upd (q.2.2 4) q.1 (ftEvV v x (ftEnd v (sf 7) (N - 1) x) (ftSb q.2.2 q.1) 0 4)) (nI ((q.1 + 1) - 1)) 3 (by first | assumption | omega)) ⟨va_cnB 3 hts gX7_read_X10_put_n55 rfl rfl rfl (hKK.2 _ (List.mem_of_getElem? (i := 23) rfl)) (hts (.initialized RX10) (by decide +kernel)) (by decide +kernel) ⟨Nat.le_of_ble_eq_true rfl, Nat.le_of_ble_eq_true rfl⟩, hts (.static yX10_put) (by decide +kernel), trivial⟩ (ft_preRW hP hD hKK [5] rfl rfl rfl) rfl rfl hl.1 rfl (lv_room (Nat.le_of_ble_eq_true rfl)) dX7_read_195 ⟨Nat.le_of_ble_eq_true rfl, Nat.le_of_ble_eq_true rfl⟩) hP hD hS hA [5] [0, 1, 2, 3, 4, 6, 7, 8, 9, 10] [0, 1, 2, 3, 4, 10, 5, 6, 7, 8, 9] rfl rfl (by decide) (by decide) (by decide) rfl rfl (fun H locs hP hD hS => ?_)
                        rw [ftPut_N (k := (q.1 + 1) - 1) (by omega) (by omega)] at hP hD
                        have hP : va_P D vwCl [(a0, .inr (7, [.ref r0, .ref r1, .ref r2, .ref r3, .ref r4, .ref r5, .ref r6, .ref r7, .int (nI (q.1 + 1)), .int (sf 9)])), (r0, .inl (cI, 30, .inl (upd (q.2.2 0) q.1 (ftEvV v x (ftEnd v (sf 7) (N - 1) x) (ftSb q.2.2 q.1) 0 0)))), (r1, .inl (cI, 30, .inl (upd (q.2.2 1) q.1 (ftEvV v x (ftEnd v (sf 7) (N - 1) x) (ftSb q.2.2 q.1) 0 1)))), (r2, .inl (cI, 30, .inl (upd (q.2.2 2) q.1 (ftEvV v x (ftEnd v (sf 7) (N - 1) x) (ftSb q.2.2 q.1) 0 2)))), (r3, .inl (cI, 30, .inl (upd (q.2.2 3) q.1 (ftEvV v x (ftEnd v (sf 7) (N - 1) x) (ftSb q.2.2 q.1) 0 3)))), (r4, .inl (cI, 30, .inl (upd (upd (q.2.2 4) q.1 (ftEvV v x (ftEnd v (sf 7) (N - 1) x) (ftSb q.2.2 q.1) 0 4)) ((q.1 + 1) - 1) 3))), (r5, .inl (cI, 30, .inl (upd (q.2.2 5) q.1 (ftEvV v x (ftEnd v (sf 7) (N - 1) x) (ftSb q.2.2 q.1) 0 5)))), (r6, .inl (cI, 30, .inl (upd (q.2.2 6) q.1 (ftEvV v x (ftEnd v (sf 7) (N - 1) x) (ftSb q.2.2 q.1) 0 6)))), (r7, .inl (cI, 30, .inl (upd (q.2.2 7) q.1 (ftEvV v x (ftEnd v (sf 7) (N - 1) x) (ftSb q.2.2 q.1) 0 7)))), (va, .inl (cI, 460, .inl v)), (s0, .inl (cI, 11, .inl sf))] H := hP
                        have hD : va_D A [(a0, .inr (7, [.ref r0, .ref r1, .ref r2, .ref r3, .ref r4, .ref r5, .ref r6, .ref r7, .int (nI (q.1 + 1)), .int (sf 9)])), (r0, .inl (cI, 30, .inl (upd (q.2.2 0) q.1 (ftEvV v x (ftEnd v (sf 7) (N - 1) x) (ftSb q.2.2 q.1) 0 0)))), (r1, .inl (cI, 30, .inl (upd (q.2.2 1) q.1 (ftEvV v x (ftEnd v (sf 7) (N - 1) x) (ftSb q.2.2 q.1) 0 1)))), (r2, .inl (cI, 30, .inl (upd (q.2.2 2) q.1 (ftEvV v x (ftEnd v (sf 7) (N - 1) x) (ftSb q.2.2 q.1) 0 2)))), (r3, .inl (cI, 30, .inl (upd (q.2.2 3) q.1 (ftEvV v x (ftEnd v (sf 7) (N - 1) x) (ftSb q.2.2 q.1) 0 3)))), (r4, .inl (cI, 30, .inl (upd (upd (q.2.2 4) q.1 (ftEvV v x (ftEnd v (sf 7) (N - 1) x) (ftSb q.2.2 q.1) 0 4)) ((q.1 + 1) - 1) 3))), (r5, .inl (cI, 30, .inl (upd (q.2.2 5) q.1 (ftEvV v x (ftEnd v (sf 7) (N - 1) x) (ftSb q.2.2 q.1) 0 5)))), (r6, .inl (cI, 30, .inl (upd (q.2.2 6) q.1 (ftEvV v x (ftEnd v (sf 7) (N - 1) x) (ftSb q.2.2 q.1) 0 6)))), (r7, .inl (cI, 30, .inl (upd (q.2.2 7) q.1 (ftEvV v x (ftEnd v (sf 7) (N - 1) x) (ftSb q.2.2 q.1) 0 7)))), (va, .inl (cI, 460, .inl v)), (s0, .inl (cI, 11, .inl sf))] := hD
                        refine lv_iload hx hb dX7_read_198 (lv_at hl 9 rfl) ?_
                        refine lv_iload hx hb dX7_read_200 (lv_at hl 1 rfl) ?_
                        refine va_mmax hx hb (hml.trans hl.1.symm) hown (hts (.methodLink RX7 59 Lib.Math.max.name) (by decide +kernel)) (hts (.static Lib.Math.max.name) (by decide +kernel)) (hts (.initialized "java/lang/Math") (by decide +kernel)) (hts (.code Lib.Math.max.name Lib.Math.max.code 2 (some .int)) (by decide +kernel)) (Nat.le_of_ble_eq_true rfl) (Nat.le_of_ble_eq_true rfl) (Nat.le_of_ble_eq_true rfl) (Nat.le_of_ble_eq_true rfl) dX7_read_202 ?_
                        refine ft_top (y := ftMax (nI x) (nI (ftEnd v (sf 7) (N - 1) x))) rfl ?_
                        refine ft_top (y := nI (ftEnd v (sf 7) (N - 1) x)) (ft_maxN (by omega) (by omega)) ?_
                        refine lv_istore (lv' := [(5, .int (nI (ftEnd v (sf 7) (N - 1) x))), (4, .int 1), (9, .int (nI (ftEnd v (sf 7) (N - 1) x))), (8, .int (nI x)), (7, .int 0), (6, .int ((v x) - (v (x - 1)))), (0, .ref a0), (1, .ref va), (2, .int (nI N)), (3, .ref s0)]) hx hb dX7_read_205 hl (by decide) rfl (fun ls hl => ?_)
                        refine lv_iinc (v := nI (ftEnd v (sf 7) (N - 1) x + 1)) (lv' := [(5, .int (nI (ftEnd v (sf 7) (N - 1) x + 1))), (4, .int 1), (9, .int (nI (ftEnd v (sf 7) (N - 1) x))), (8, .int (nI x)), (7, .int 0), (6, .int ((v x) - (v (x - 1)))), (0, .ref a0), (1, .ref va), (2, .int (nI N)), (3, .ref s0)]) hx hb dX7_read_207 hl (k := 0) rfl (ft_inc (ftEnd v (sf 7) (N - 1) x)) (by decide) rfl (fun ls hl => ?_)
                        refine lv_goto (tgt := 21) hx hb dX7_read_210 (by decide) ?_
                        exact ih21 (ftEnd v (sf 7) (N - 1) x + 1) q9 1 (nI (ftEnd v (sf 7) (N - 1) x + 1)) (nI (q.1 + 1)) (upd (q.2.2 0) q.1 (ftEvV v x (ftEnd v (sf 7) (N - 1) x) (ftSb q.2.2 q.1) 0 0)) (upd (q.2.2 1) q.1 (ftEvV v x (ftEnd v (sf 7) (N - 1) x) (ftSb q.2.2 q.1) 0 1)) (upd (q.2.2 2) q.1 (ftEvV v x (ftEnd v (sf 7) (N - 1) x) (ftSb q.2.2 q.1) 0 2)) (upd (q.2.2 3) q.1 (ftEvV v x (ftEnd v (sf 7) (N - 1) x) (ftSb q.2.2 q.1) 0 3)) (upd (upd (q.2.2 4) q.1 (ftEvV v x (ftEnd v (sf 7) (N - 1) x) (ftSb q.2.2 q.1) 0 4)) ((q.1 + 1) - 1) 3) (upd (q.2.2 5) q.1 (ftEvV v x (ftEnd v (sf 7) (N - 1) x) (ftSb q.2.2 q.1) 0 5)) (upd (q.2.2 6) q.1 (ftEvV v x (ftEnd v (sf 7) (N - 1) x) (ftSb q.2.2 q.1) 0 6)) (upd (q.2.2 7) q.1 (ftEvV v x (ftEnd v (sf 7) (N - 1) x) (ftSb q.2.2 q.1) 0 7)) (by omega) (by omega) (by omega) (by first | (rw [hq9]; exact hq30) | (rw [hq9]; exact h30)) (by first | (rw [hq9]; exact hsb) | (intro _; rw [hq9]; exact ⟨_, by omega, if_pos rfl⟩)) (by first | (rw [hq9, hres]; exact ftRdL_s hw c24n h30 c38 (Int32.not_le.mpr c66) (Int32.not_lt.mpr c90)) | (rw [hq9, hres]; exact ftRdL_p hw c24n h30 c38 (Int32.not_le.mpr c66) (Int32.not_le.mp c90) (by first | exact (if_pos (Int32.not_le.mp c142)).symm | exact (if_neg (Int32.not_lt.mpr c142)).symm)) | (rw [hq9, hres]; exact ftRdL_r hw c24n h30 c38 (Int32.not_lt.mp c66) (by first | exact (if_pos (Int32.not_le.mp c142)).symm | exact (if_neg (Int32.not_lt.mpr c142)).symm))) (by first | (rw [hq9]; done) | (rw [hq9]; rfl)) (by first | rfl | assumption) (by first | (rw [hq9]; done) | (rw [hq9]; rfl)) (by first | (rw [hq9]; done) | (rw [hq9]; rfl)) (by first | (rw [hq9]; done) | (rw [hq9]; rfl)) (by first | (rw [hq9]; done) | (rw [hq9]; rfl)) (by first | (rw [hq9]; done) | (rw [hq9]; rfl)) (by first | (rw [hq9]; done) | (first | (rw [hq9, ftUpd_same]; rfl) | (rw [hq9, ftUpd_same, ftUpd_at]; rfl))) (by first | (rw [hq9]; done) | (rw [hq9]; rfl)) (by first | (rw [hq9]; done) | (rw [hq9]; rfl)) (by first | (rw [hq9]; done) | (rw [hq9]; rfl)) _ _ hP hD hS ls (lv_sub hl [6, 7, 8, 9, 1, 0] rfl)
                  · exact absurd rfl c95
            · refine lv_iconst (v := 1) hx hb dX7_read_69 (by decide) ?_
              refine lv_goto (tgt := 74) hx hb dX7_read_70 (by decide) ?_
              refine lv_istore (lv' := [(7, .int 1), (6, .int ((v x) - (v (x - 1)))), (0, .ref a0), (1, .ref va), (2, .int (nI N)), (3, .ref s0), (4, .int q.2.1), (5, .int (nI x))]) hx hb dX7_read_74 hl (by decide) rfl (fun ls hl => ?_)
              refine lv_iload hx hb dX7_read_76 (lv_at hl 0 rfl) ?_
              refine lv_if_ne (tgt := 93) hx hb dX7_read_78 (by decide) (fun c78 => ?_) (fun c78 => ?_)
              · refine lv_iload hx hb dX7_read_93 (lv_at hl 0 rfl) ?_
                refine lv_if_eq (tgt := 111) hx hb dX7_read_95 (by decide) (fun c95 => ?_) (fun c95 => ?_)
                · exact absurd c95 (by decide)
                · refine lv_iload hx hb dX7_read_98 (lv_at hl 7 rfl) ?_
                  refine lv_aload_n hx hb dX7_read_100 rfl (lv_at hl 5 rfl) ?_
                  refine lv_iconst (v := 0) hx hb dX7_read_101 (by decide) ?_
                  refine ft_csi (r := ftAt 11 sf 0) (va_runSN (As := [.ref s0, .int 0]) (rest := [.int (nI x)]) ⟨hx, hb, hml, hown, hts⟩ (c_X10_at l D cI cS s0 11 sf 0 (by first | assumption | omega)) ⟨va_cnB 2 hts gX7_read_X10_at_n40 rfl rfl rfl (hKK.2 _ (List.mem_of_getElem? (i := 22) rfl)) (hts (.initialized RX10) (by decide +kernel)) (by decide +kernel) ⟨Nat.le_of_ble_eq_true rfl, Nat.le_of_ble_eq_true rfl⟩, hts (.static yX10_at) (by decide +kernel), trivial⟩ (ft_preRO hP hKK [10] rfl) rfl rfl hl.1 rfl (lv_room (Nat.le_of_ble_eq_true rfl)) dX7_read_102 ⟨Nat.le_of_ble_eq_true rfl, Nat.le_of_ble_eq_true rfl⟩) ?_
                  refine ft_top (y := sf 0) (ftAt_N (k := 0) (by omega) (by omega)) ?_
                  refine ft_top (y := nI w) hs0 ?_
                  refine lv_iadd hx hb dX7_read_105 ?_
                  refine ft_top (y := nI (x + w)) (ft_addN x w) ?_
                  refine lv_iconst (v := 1) hx hb dX7_read_106 (by decide) ?_
                  refine lv_isub hx hb dX7_read_107 ?_
                  refine ft_top (y := nI ((x + w) - 1)) (ft_subN (a := x + w) (b := 1) (by omega)) ?_
                  refine lv_goto (tgt := 113) hx hb dX7_read_108 (by decide) ?_
                  refine lv_istore (lv' := [(8, .int (nI ((x + w) - 1))), (7, .int 1), (6, .int ((v x) - (v (x - 1)))), (0, .ref a0), (1, .ref va), (2, .int (nI N)), (3, .ref s0), (4, .int q.2.1), (5, .int (nI x))]) hx hb dX7_read_113 hl (by decide) rfl (fun ls hl => ?_)
                  refine lv_aload_n hx hb dX7_read_115 rfl (lv_at hl 4 rfl) ?_
                  refine lv_iload_n hx hb dX7_read_116 rfl (lv_at hl 5 rfl) ?_
                  refine lv_iload hx hb dX7_read_117 (lv_at hl 0 rfl) ?_
                  refine lv_aload_n hx hb dX7_read_119 rfl (lv_at hl 6 rfl) ?_
                  refine lv_bipush (v := 7) hx hb dX7_read_120 (by decide) ?_
                  refine ft_csi (r := ftAt 11 sf 7) (va_runSN (As := [.ref s0, .int 7]) (rest := [.int (nI ((x + w) - 1)), .int (nI N), .ref va]) ⟨hx, hb, hml, hown, hts⟩ (c_X10_at l D cI cS s0 11 sf 7 (by first | assumption | omega)) ⟨va_cnB 2 hts gX7_read_X10_at_n40 rfl rfl rfl (hKK.2 _ (List.mem_of_getElem? (i := 22) rfl)) (hts (.initialized RX10) (by decide +kernel)) (by decide +kernel) ⟨Nat.le_of_ble_eq_true rfl, Nat.le_of_ble_eq_true rfl⟩, hts (.static yX10_at) (by decide +kernel), trivial⟩ (ft_preRO hP hKK [10] rfl) rfl rfl hl.1 rfl (lv_room (Nat.le_of_ble_eq_true rfl)) dX7_read_122 ⟨Nat.le_of_ble_eq_true rfl, Nat.le_of_ble_eq_true rfl⟩) ?_
                  refine ft_top (y := sf 7) (ftAt_N (k := 7) (by omega) (by omega)) ?_
                  refine ft_csi (r := nI (ftEnd v (sf 7) (N - 1) ((x + w) - 1))) (va_runS (As := [.ref va, .int (nI N), .int (nI ((x + w) - 1)), .int (sf 7)]) (rest := []) ⟨hx, hb, hml, hown, hts⟩ (c_X7_endFrom l D cI cS va v N ((x + w) - 1) (sf 7) (by first | assumption | omega) (by first | assumption | omega) (by first | assumption | omega)) (va_cwS 4 hts gX7_read_X7_endFrom rfl rfl rfl (by decide +kernel) ⟨Nat.le_of_ble_eq_true rfl, Nat.le_of_ble_eq_true rfl⟩) (ft_preRO hP hKK [9] rfl) rfl rfl hl.1 rfl (lv_room (Nat.le_of_ble_eq_true rfl)) dX7_read_125 ⟨Nat.le_of_ble_eq_true rfl, Nat.le_of_ble_eq_true rfl⟩) ?_
                  have hy1 : ftEnd v (sf 7) (N - 1) ((x + w) - 1) ≤ N - 1 := ftEnd_le _ _ _ _
                  have hy2 : x ≤ ftEnd v (sf 7) (N - 1) ((x + w) - 1) := ftEnd_geX (by omega) (by omega)
                  refine lv_istore (lv' := [(9, .int (nI (ftEnd v (sf 7) (N - 1) ((x + w) - 1)))), (8, .int (nI ((x + w) - 1))), (7, .int 1), (6, .int ((v x) - (v (x - 1)))), (0, .ref a0), (1, .ref va), (2, .int (nI N)), (3, .ref s0), (4, .int q.2.1), (5, .int (nI x))]) hx hb dX7_read_128 hl (by decide) rfl (fun ls hl => ?_)
                  refine lv_aload_n hx hb dX7_read_130 rfl (lv_at hl 5 rfl) ?_
                  refine lv_iload hx hb dX7_read_131 (lv_at hl 0 rfl) ?_
                  refine ft_csi (r := ftAt 460 v (nI (ftEnd v (sf 7) (N - 1) ((x + w) - 1)))) (va_runSN (As := [.ref va, .int (nI (ftEnd v (sf 7) (N - 1) ((x + w) - 1)))]) (rest := []) ⟨hx, hb, hml, hown, hts⟩ (c_X10_at l D cI cS va 460 v (nI (ftEnd v (sf 7) (N - 1) ((x + w) - 1))) (by first | assumption | omega)) ⟨va_cnB 2 hts gX7_read_X10_at_n40 rfl rfl rfl (hKK.2 _ (List.mem_of_getElem? (i := 22) rfl)) (hts (.initialized RX10) (by decide +kernel)) (by decide +kernel) ⟨Nat.le_of_ble_eq_true rfl, Nat.le_of_ble_eq_true rfl⟩, hts (.static yX10_at) (by decide +kernel), trivial⟩ (ft_preRO hP hKK [9] rfl) rfl rfl hl.1 rfl (lv_room (Nat.le_of_ble_eq_true rfl)) dX7_read_133 ⟨Nat.le_of_ble_eq_true rfl, Nat.le_of_ble_eq_true rfl⟩) ?_
                  refine ft_top (y := v (ftEnd v (sf 7) (N - 1) ((x + w) - 1))) (ftAt_N (by omega) (by omega)) ?_
                  refine lv_aload_n hx hb dX7_read_136 rfl (lv_at hl 7 rfl) ?_
                  refine lv_bipush (v := 8) hx hb dX7_read_137 (by decide) ?_
                  refine ft_csi (r := ftAt 11 sf 8) (va_runSN (As := [.ref s0, .int 8]) (rest := [.int (v (ftEnd v (sf 7) (N - 1) ((x + w) - 1)))]) ⟨hx, hb, hml, hown, hts⟩ (c_X10_at l D cI cS s0 11 sf 8 (by first | assumption | omega)) ⟨va_cnB 2 hts gX7_read_X10_at_n40 rfl rfl rfl (hKK.2 _ (List.mem_of_getElem? (i := 22) rfl)) (hts (.initialized RX10) (by decide +kernel)) (by decide +kernel) ⟨Nat.le_of_ble_eq_true rfl, Nat.le_of_ble_eq_true rfl⟩, hts (.static yX10_at) (by decide +kernel), trivial⟩ (ft_preRO hP hKK [10] rfl) rfl rfl hl.1 rfl (lv_room (Nat.le_of_ble_eq_true rfl)) dX7_read_139 ⟨Nat.le_of_ble_eq_true rfl, Nat.le_of_ble_eq_true rfl⟩) ?_
                  refine ft_top (y := sf 8) (ftAt_N (k := 8) (by omega) (by omega)) ?_
                  refine lv_icmp_ge (tgt := 149) hx hb dX7_read_142 (by decide) (fun c142 => ?_) (fun c142 => ?_)
                  · refine lv_iconst (v := 0) hx hb dX7_read_149 (by decide) ?_
                    refine lv_istore (lv' := [(4, .int 0), (9, .int (nI (ftEnd v (sf 7) (N - 1) ((x + w) - 1)))), (8, .int (nI ((x + w) - 1))), (7, .int 1), (6, .int ((v x) - (v (x - 1)))), (0, .ref a0), (1, .ref va), (2, .int (nI N)), (3, .ref s0), (5, .int (nI x))]) hx hb dX7_read_150 hl (by decide) rfl (fun ls hl => ?_)
                    obtain ⟨q9, hq9⟩ : ∃ q9, q9 = ftRdEv v x (ftEnd v (sf 7) (N - 1) ((x + w) - 1)) 1 0 q := ⟨_, rfl⟩
                    have h30 : q.1 < 30 := by omega
                    refine lv_aload_n hx hb dX7_read_152 rfl (lv_at hl 5 rfl) ?_
                    refine lv_aload_n hx hb dX7_read_153 rfl (lv_at hl 6 rfl) ?_
                    refine lv_iload hx hb dX7_read_154 (lv_at hl 9 rfl) ?_
                    refine lv_iload hx hb dX7_read_156 (lv_at hl 1 rfl) ?_
                    refine lv_iload hx hb dX7_read_158 (lv_at hl 3 rfl) ?_
                    refine ft_cv (wc := [(a0, .inr (7, [.ref r0, .ref r1, .ref r2, .ref r3, .ref r4, .ref r5, .ref r6, .ref r7, .int (nI q.1), .int (sf 9)])), (r0, .inl (cI, 30, .inl (q.2.2 0))), (r1, .inl (cI, 30, .inl (q.2.2 1))), (r2, .inl (cI, 30, .inl (q.2.2 2))), (r3, .inl (cI, 30, .inl (q.2.2 3))), (r4, .inl (cI, 30, .inl (q.2.2 4))), (r5, .inl (cI, 30, .inl (q.2.2 5))), (r6, .inl (cI, 30, .inl (q.2.2 6))), (r7, .inl (cI, 30, .inl (q.2.2 7))), (va, .inl (cI, 460, .inl v))]) (wr := [(s0, .inl (cI, 11, .inl sf))]) (w1 := [(a0, .inr (7, [.ref r0, .ref r1, .ref r2, .ref r3, .ref r4, .ref r5, .ref r6, .ref r7, .int (nI (q.1 + 1)), .int (sf 9)])), (r0, .inl (cI, 30, .inl (upd (q.2.2 0) q.1 (ftEvV v x (ftEnd v (sf 7) (N - 1) ((x + w) - 1)) (ftSb q.2.2 q.1) 1 0)))), (r1, .inl (cI, 30, .inl (upd (q.2.2 1) q.1 (ftEvV v x (ftEnd v (sf 7) (N - 1) ((x + w) - 1)) (ftSb q.2.2 q.1) 1 1)))), (r2, .inl (cI, 30, .inl (upd (q.2.2 2) q.1 (ftEvV v x (ftEnd v (sf 7) (N - 1) ((x + w) - 1)) (ftSb q.2.2 q.1) 1 2)))), (r3, .inl (cI, 30, .inl (upd (q.2.2 3) q.1 (ftEvV v x (ftEnd v (sf 7) (N - 1) ((x + w) - 1)) (ftSb q.2.2 q.1) 1 3)))), (r4, .inl (cI, 30, .inl (upd (q.2.2 4) q.1 (ftEvV v x (ftEnd v (sf 7) (N - 1) ((x + w) - 1)) (ftSb q.2.2 q.1) 1 4)))), (r5, .inl (cI, 30, .inl (upd (q.2.2 5) q.1 (ftEvV v x (ftEnd v (sf 7) (N - 1) ((x + w) - 1)) (ftSb q.2.2 q.1) 1 5)))), (r6, .inl (cI, 30, .inl (upd (q.2.2 6) q.1 (ftEvV v x (ftEnd v (sf 7) (N - 1) ((x + w) - 1)) (ftSb q.2.2 q.1) 1 6)))), (r7, .inl (cI, 30, .inl (upd (q.2.2 7) q.1 (ftEvV v x (ftEnd v (sf 7) (N - 1) ((x + w) - 1)) (ftSb q.2.2 q.1) 1 7)))), (va, .inl (cI, 460, .inl v))]) (ws1 := [(a0, .inr (7, [.ref r0, .ref r1, .ref r2, .ref r3, .ref r4, .ref r5, .ref r6, .ref r7, .int (nI (q.1 + 1)), .int (sf 9)])), (r0, .inl (cI, 30, .inl (upd (q.2.2 0) q.1 (ftEvV v x (ftEnd v (sf 7) (N - 1) ((x + w) - 1)) (ftSb q.2.2 q.1) 1 0)))), (r1, .inl (cI, 30, .inl (upd (q.2.2 1) q.1 (ftEvV v x (ftEnd v (sf 7) (N - 1) ((x + w) - 1)) (ftSb q.2.2 q.1) 1 1)))), (r2, .inl (cI, 30, .inl (upd (q.2.2 2) q.1 (ftEvV v x (ftEnd v (sf 7) (N - 1) ((x + w) - 1)) (ftSb q.2.2 q.1) 1 2)))), (r3, .inl (cI, 30, .inl (upd (q.2.2 3) q.1 (ftEvV v x (ftEnd v (sf 7) (N - 1) ((x + w) - 1)) (ftSb q.2.2 q.1) 1 3)))), (r4, .inl (cI, 30, .inl (upd (q.2.2 4) q.1 (ftEvV v x (ftEnd v (sf 7) (N - 1) ((x + w) - 1)) (ftSb q.2.2 q.1) 1 4)))), (r5, .inl (cI, 30, .inl (upd (q.2.2 5) q.1 (ftEvV v x (ftEnd v (sf 7) (N - 1) ((x + w) - 1)) (ftSb q.2.2 q.1) 1 5)))), (r6, .inl (cI, 30, .inl (upd (q.2.2 6) q.1 (ftEvV v x (ftEnd v (sf 7) (N - 1) ((x + w) - 1)) (ftSb q.2.2 q.1) 1 6)))), (r7, .inl (cI, 30, .inl (upd (q.2.2 7) q.1 (ftEvV v x (ftEnd v (sf 7) (N - 1) ((x + w) - 1)) (ftSb q.2.2 q.1) 1 7)))), (va, .inl (cI, 460, .inl v)), (s0, .inl (cI, 11, .inl sf))]) (va_runV (C := RX7) (As := [.ref va, .int (nI x), .int (nI (ftEnd v (sf 7) (N - 1) ((x + w) - 1))), .int 1]) (rest := []) ⟨hx, hb, hml, hown, hts⟩ (c_X7_addEvent l D cI cS H.size a0 r0 r1 r2 r3 r4 r5 r6 r7 q.1 (sf 9) q.2.2 va v x (ftEnd v (sf 7) (N - 1) ((x + w) - 1)) 1 (by omega) hx1 hy2 (by omega) hsb) (cwV 4 hts gX7_read_X7_addEvent rfl rfl rfl (by decide +kernel) ⟨Nat.le_of_ble_eq_true rfl, Nat.le_of_ble_eq_true rfl⟩) (ft_preRWV (ci := 7) (q0 := 0) hP hD hKK [0, 1, 2, 3, 4, 5, 6, 7, 8, 9] rfl rfl rfl rfl rfl) rfl rfl hl.1 rfl (lv_room (Nat.le_of_ble_eq_true rfl)) dX7_read_160 ⟨Nat.le_of_ble_eq_true rfl, Nat.le_of_ble_eq_true rfl⟩) hP hD hS hA [0, 1, 2, 3, 4, 5, 6, 7, 8, 9] [10] [1, 2, 3, 4, 5, 6, 7, 8, 9, 10, 0] rfl rfl (by decide) (by decide) (by decide) rfl rfl (fun H locs hP hD hS => ?_)
                    have hP : va_P D vwCl [(a0, .inr (7, [.ref r0, .ref r1, .ref r2, .ref r3, .ref r4, .ref r5, .ref r6, .ref r7, .int (nI (q.1 + 1)), .int (sf 9)])), (r0, .inl (cI, 30, .inl (upd (q.2.2 0) q.1 (ftEvV v x (ftEnd v (sf 7) (N - 1) ((x + w) - 1)) (ftSb q.2.2 q.1) 1 0)))), (r1, .inl (cI, 30, .inl (upd (q.2.2 1) q.1 (ftEvV v x (ftEnd v (sf 7) (N - 1) ((x + w) - 1)) (ftSb q.2.2 q.1) 1 1)))), (r2, .inl (cI, 30, .inl (upd (q.2.2 2) q.1 (ftEvV v x (ftEnd v (sf 7) (N - 1) ((x + w) - 1)) (ftSb q.2.2 q.1) 1 2)))), (r3, .inl (cI, 30, .inl (upd (q.2.2 3) q.1 (ftEvV v x (ftEnd v (sf 7) (N - 1) ((x + w) - 1)) (ftSb q.2.2 q.1) 1 3)))), (r4, .inl (cI, 30, .inl (upd (q.2.2 4) q.1 (ftEvV v x (ftEnd v (sf 7) (N - 1) ((x + w) - 1)) (ftSb q.2.2 q.1) 1 4)))), (r5, .inl (cI, 30, .inl (upd (q.2.2 5) q.1 (ftEvV v x (ftEnd v (sf 7) (N - 1) ((x + w) - 1)) (ftSb q.2.2 q.1) 1 5)))), (r6, .inl (cI, 30, .inl (upd (q.2.2 6) q.1 (ftEvV v x (ftEnd v (sf 7) (N - 1) ((x + w) - 1)) (ftSb q.2.2 q.1) 1 6)))), (r7, .inl (cI, 30, .inl (upd (q.2.2 7) q.1 (ftEvV v x (ftEnd v (sf 7) (N - 1) ((x + w) - 1)) (ftSb q.2.2 q.1) 1 7)))), (va, .inl (cI, 460, .inl v)), (s0, .inl (cI, 11, .inl sf))] H := hP
                    have hD : va_D A [(a0, .inr (7, [.ref r0, .ref r1, .ref r2, .ref r3, .ref r4, .ref r5, .ref r6, .ref r7, .int (nI (q.1 + 1)), .int (sf 9)])), (r0, .inl (cI, 30, .inl (upd (q.2.2 0) q.1 (ftEvV v x (ftEnd v (sf 7) (N - 1) ((x + w) - 1)) (ftSb q.2.2 q.1) 1 0)))), (r1, .inl (cI, 30, .inl (upd (q.2.2 1) q.1 (ftEvV v x (ftEnd v (sf 7) (N - 1) ((x + w) - 1)) (ftSb q.2.2 q.1) 1 1)))), (r2, .inl (cI, 30, .inl (upd (q.2.2 2) q.1 (ftEvV v x (ftEnd v (sf 7) (N - 1) ((x + w) - 1)) (ftSb q.2.2 q.1) 1 2)))), (r3, .inl (cI, 30, .inl (upd (q.2.2 3) q.1 (ftEvV v x (ftEnd v (sf 7) (N - 1) ((x + w) - 1)) (ftSb q.2.2 q.1) 1 3)))), (r4, .inl (cI, 30, .inl (upd (q.2.2 4) q.1 (ftEvV v x (ftEnd v (sf 7) (N - 1) ((x + w) - 1)) (ftSb q.2.2 q.1) 1 4)))), (r5, .inl (cI, 30, .inl (upd (q.2.2 5) q.1 (ftEvV v x (ftEnd v (sf 7) (N - 1) ((x + w) - 1)) (ftSb q.2.2 q.1) 1 5)))), (r6, .inl (cI, 30, .inl (upd (q.2.2 6) q.1 (ftEvV v x (ftEnd v (sf 7) (N - 1) ((x + w) - 1)) (ftSb q.2.2 q.1) 1 6)))), (r7, .inl (cI, 30, .inl (upd (q.2.2 7) q.1 (ftEvV v x (ftEnd v (sf 7) (N - 1) ((x + w) - 1)) (ftSb q.2.2 q.1) 1 7)))), (va, .inl (cI, 460, .inl v)), (s0, .inl (cI, 11, .inl sf))] := hD
                    refine lv_aload_n hx hb dX7_read_163 rfl (lv_at hl 5 rfl) ?_
                    refine va_get (D := D) (ci := 7) (v := .ref r4) (C := RX7) (T := TX7) (N := 10) hx hb hts (by decide +kernel) hown hK hP 0 rfl rfl 4 (by decide) (hts (.fieldLink RX7 24 "FiberTrace$Reading" "kinds" "[I") (by decide +kernel)) (fun _ h9 => h9) rfl dX7_read_164 ?_
                    refine lv_aload_n hx hb dX7_read_167 rfl (lv_at hl 5 rfl) ?_
                    refine va_get (D := D) (ci := 7) (v := .int (nI (q.1 + 1))) (C := RX7) (T := TX7) (N := 10) hx hb hts (by decide +kernel) hown hK hP 0 rfl rfl 8 (by decide) (hts (.fieldLink RX7 36 "FiberTrace$Reading" "size" "I") (by decide +kernel)) (fun _ h9 => h9) rfl dX7_read_168 ?_
                    refine lv_iconst (v := 1) hx hb dX7_read_171 (by decide) ?_
                    refine lv_isub hx hb dX7_read_172 ?_
                    refine ft_top (y := nI ((q.1 + 1) - 1)) (ft_subN (a := q.1 + 1) (b := 1) (by omega)) ?_
                    refine lv_iload hx hb dX7_read_173 (lv_at hl 0 rfl) ?_
                    refine lv_if_eq (tgt := 182) hx hb dX7_read_175 (by decide) (fun c175 => ?_) (fun c175 => ?_)
                    · refine lv_aload_n hx hb dX7_read_182 rfl (lv_at hl 5 rfl) ?_
                      refine va_get (D := D) (ci := 7) (v := .ref r4) (C := RX7) (T := TX7) (N := 10) hx hb hts (by decide +kernel) hown hK hP 0 rfl rfl 4 (by decide) (hts (.fieldLink RX7 24 "FiberTrace$Reading" "kinds" "[I") (by decide +kernel)) (fun _ h9 => h9) rfl dX7_read_183 ?_
                      refine lv_aload_n hx hb dX7_read_186 rfl (lv_at hl 5 rfl) ?_
                      refine va_get (D := D) (ci := 7) (v := .int (nI (q.1 + 1))) (C := RX7) (T := TX7) (N := 10) hx hb hts (by decide +kernel) hown hK hP 0 rfl rfl 8 (by decide) (hts (.fieldLink RX7 36 "FiberTrace$Reading" "size" "I") (by decide +kernel)) (fun _ h9 => h9) rfl dX7_read_187 ?_
                      refine lv_iconst (v := 1) hx hb dX7_read_190 (by decide) ?_
                      refine lv_isub hx hb dX7_read_191 ?_
                      refine ft_top (y := nI ((q.1 + 1) - 1)) (ft_subN (a := q.1 + 1) (b := 1) (by omega)) ?_
                      refine ft_csi (r := ftAt 30 (upd (q.2.2 4) q.1 (ftEvV v x (ftEnd v (sf 7) (N - 1) ((x + w) - 1)) (ftSb q.2.2 q.1) 1 4)) (nI ((q.1 + 1) - 1))) (va_runSN (As := [.ref r4, .int (nI ((q.1 + 1) - 1))]) (rest := [.int (nI ((q.1 + 1) - 1)), .ref r4]) ⟨hx, hb, hml, hown, hts⟩ (c_X10_at l D cI cS r4 30 (upd (q.2.2 4) q.1 (ftEvV v x (ftEnd v (sf 7) (N - 1) ((x + w) - 1)) (ftSb q.2.2 q.1) 1 4)) (nI ((q.1 + 1) - 1)) (by first | assumption | omega)) ⟨va_cnB 2 hts gX7_read_X10_at_n40 rfl rfl rfl (hKK.2 _ (List.mem_of_getElem? (i := 22) rfl)) (hts (.initialized RX10) (by decide +kernel)) (by decide +kernel) ⟨Nat.le_of_ble_eq_true rfl, Nat.le_of_ble_eq_true rfl⟩, hts (.static yX10_at) (by decide +kernel), trivial⟩ (ft_preRO hP hKK [5] rfl) rfl rfl hl.1 rfl (lv_room (Nat.le_of_ble_eq_true rfl)) dX7_read_192 ⟨Nat.le_of_ble_eq_true rfl, Nat.le_of_ble_eq_true rfl⟩) ?_
                      refine ft_top (y := (upd (q.2.2 4) q.1 (ftEvV v x (ftEnd v (sf 7) (N - 1) ((x + w) - 1)) (ftSb q.2.2 q.1) 1 4)) ((q.1 + 1) - 1)) (ftAt_N (by omega) (by omega)) ?_
                      refine ft_cv (wc := [(r4, .inl (cI, 30, .inl (upd (q.2.2 4) q.1 (ftEvV v x (ftEnd v (sf 7) (N - 1) ((x + w) - 1)) (ftSb q.2.2 q.1) 1 4))))]) (wr := [(a0, .inr (7, [.ref r0, .ref r1, .ref r2, .ref r3, .ref r4, .ref r5, .ref r6, .ref r7, .int (nI (q.1 + 1)), .int (sf 9)])), (r0, .inl (cI, 30, .inl (upd (q.2.2 0) q.1 (ftEvV v x (ftEnd v (sf 7) (N - 1) ((x + w) - 1)) (ftSb q.2.2 q.1) 1 0)))), (r1, .inl (cI, 30, .inl (upd (q.2.2 1) q.1 (ftEvV v x (ftEnd v (sf 7) (N - 1) ((x + w) - 1)) (ftSb q.2.2 q.1) 1 1)))), (r2, .inl (cI, 30, .inl (upd (q.2.2 2) q.1 (ftEvV v x (ftEnd v (sf 7) (N - 1) ((x + w) - 1)) (ftSb q.2.2 q.1) 1 2)))), (r3, .inl (cI, 30, .inl (upd (q.2.2 3) q.1 (ftEvV v x (ftEnd v (sf 7) (N - 1) ((x + w) - 1)) (ftSb q.2.2 q.1) 1 3)))), (r5, .inl (cI, 30, .inl (upd (q.2.2 5) q.1 (ftEvV v x (ftEnd v (sf 7) (N - 1) ((x + w) - 1)) (ftSb q.2.2 q.1) 1 5)))), (r6, .inl (cI, 30, .inl (upd (q.2.2 6) q.1 (ftEvV v x (ftEnd v (sf 7) (N - 1) ((x + w) - 1)) (ftSb q.2.2 q.1) 1 6)))), (r7, .inl (cI, 30, .inl (upd (q.2.2 7) q.1 (ftEvV v x (ftEnd v (sf 7) (N - 1) ((x + w) - 1)) (ftSb q.2.2 q.1) 1 7)))), (va, .inl (cI, 460, .inl v)), (s0, .inl (cI, 11, .inl sf))]) (w1 := [(r4, .inl (cI, 30, .inl (ftPut 30 (upd (q.2.2 4) q.1 (ftEvV v x (ftEnd v (sf 7) (N - 1) ((x + w) - 1)) (ftSb q.2.2 q.1) 1 4)) (nI ((q.1 + 1) - 1)) ((upd (q.2.2 4) q.1 (ftEvV v x (ftEnd v (sf 7) (N - 1) ((x + w) - 1)) (ftSb q.2.2 q.1) 1 4)) ((q.1 + 1) - 1)))))]) (ws1 := [(a0, .inr (7, [.ref r0, .ref r1, .ref r2, .ref r3, .ref r4, .ref r5, .ref r6, .ref r7, .int (nI (q.1 + 1)), .int (sf 9)])), (r0, .inl (cI, 30, .inl (upd (q.2.2 0) q.1 (ftEvV v x (ftEnd v (sf 7) (N - 1) ((x + w) - 1)) (ftSb q.2.2 q.1) 1 0)))), (r1, .inl (cI, 30, .inl (upd (q.2.2 1) q.1 (ftEvV v x (ftEnd v (sf 7) (N - 1) ((x + w) - 1)) (ftSb q.2.2 q.1) 1 1)))), (r2, .inl (cI, 30, .inl (upd (q.2.2 2) q.1 (ftEvV v x (ftEnd v (sf 7) (N - 1) ((x + w) - 1)) (ftSb q.2.2 q.1) 1 2)))), (r3, .inl (cI, 30, .inl (upd (q.2.2 3) q.1 (ftEvV v x (ftEnd v (sf 7) (N - 1) ((x + w) - 1)) (ftSb q.2.2 q.1) 1 3)))), (r4, .inl (cI, 30, .inl (ftPut 30 (upd (q.2.2 4) q.1 (ftEvV v x (ftEnd v (sf 7) (N - 1) ((x + w) - 1)) (ftSb q.2.2 q.1) 1 4)) (nI ((q.1 + 1) - 1)) ((upd (q.2.2 4) q.1 (ftEvV v x (ftEnd v (sf 7) (N - 1) ((x + w) - 1)) (ftSb q.2.2 q.1) 1 4)) ((q.1 + 1) - 1))))), (r5, .inl (cI, 30, .inl (upd (q.2.2 5) q.1 (ftEvV v x (ftEnd v (sf 7) (N - 1) ((x + w) - 1)) (ftSb q.2.2 q.1) 1 5)))), (r6, .inl (cI, 30, .inl (upd (q.2.2 6) q.1 (ftEvV v x (ftEnd v (sf 7) (N - 1) ((x + w) - 1)) (ftSb q.2.2 q.1) 1 6)))), (r7, .inl (cI, 30, .inl (upd (q.2.2 7) q.1 (ftEvV v x (ftEnd v (sf 7) (N - 1) ((x + w) - 1)) (ftSb q.2.2 q.1) 1 7)))), (va, .inl (cI, 460, .inl v)), (s0, .inl (cI, 11, .inl sf))]) (va_runSN (As := [.ref r4, .int (nI ((q.1 + 1) - 1)), .int ((upd (q.2.2 4) q.1 (ftEvV v x (ftEnd v (sf 7) (N - 1) ((x + w) - 1)) (ftSb q.2.2 q.1) 1 4)) ((q.1 + 1) - 1))]) (rest := []) ⟨hx, hb, hml, hown, hts⟩ (c_X10_put l D cI cS H.size r4 30 (upd (q.2.2 4) q.1 (ftEvV v x (ftEnd v (sf 7) (N - 1) ((x + w) - 1)) (ftSb q.2.2 q.1) 1 4)) (nI ((q.1 + 1) - 1)) ((upd (q.2.2 4) q.1 (ftEvV v x (ftEnd v (sf 7) (N - 1) ((x + w) - 1)) (ftSb q.2.2 q.1) 1 4)) ((q.1 + 1) - 1)) (by first | assumption | omega)) ⟨va_cnB 3 hts gX7_read_X10_put_n55 rfl rfl rfl (hKK.2 _ (List.mem_of_getElem? (i := 23) rfl)) (hts (.initialized RX10) (by decide +kernel)) (by decide +kernel) ⟨Nat.le_of_ble_eq_true rfl, Nat.le_of_ble_eq_true rfl⟩, hts (.static yX10_put) (by decide +kernel), trivial⟩ (ft_preRW hP hD hKK [5] rfl rfl rfl) rfl rfl hl.1 rfl (lv_room (Nat.le_of_ble_eq_true rfl)) dX7_read_195 ⟨Nat.le_of_ble_eq_true rfl, Nat.le_of_ble_eq_true rfl⟩) hP hD hS hA [5] [0, 1, 2, 3, 4, 6, 7, 8, 9, 10] [0, 1, 2, 3, 4, 10, 5, 6, 7, 8, 9] rfl rfl (by decide) (by decide) (by decide) rfl rfl (fun H locs hP hD hS => ?_)
                      rw [ftPut_N (k := (q.1 + 1) - 1) (by omega) (by omega)] at hP hD
                      have hP : va_P D vwCl [(a0, .inr (7, [.ref r0, .ref r1, .ref r2, .ref r3, .ref r4, .ref r5, .ref r6, .ref r7, .int (nI (q.1 + 1)), .int (sf 9)])), (r0, .inl (cI, 30, .inl (upd (q.2.2 0) q.1 (ftEvV v x (ftEnd v (sf 7) (N - 1) ((x + w) - 1)) (ftSb q.2.2 q.1) 1 0)))), (r1, .inl (cI, 30, .inl (upd (q.2.2 1) q.1 (ftEvV v x (ftEnd v (sf 7) (N - 1) ((x + w) - 1)) (ftSb q.2.2 q.1) 1 1)))), (r2, .inl (cI, 30, .inl (upd (q.2.2 2) q.1 (ftEvV v x (ftEnd v (sf 7) (N - 1) ((x + w) - 1)) (ftSb q.2.2 q.1) 1 2)))), (r3, .inl (cI, 30, .inl (upd (q.2.2 3) q.1 (ftEvV v x (ftEnd v (sf 7) (N - 1) ((x + w) - 1)) (ftSb q.2.2 q.1) 1 3)))), (r4, .inl (cI, 30, .inl (upd (upd (q.2.2 4) q.1 (ftEvV v x (ftEnd v (sf 7) (N - 1) ((x + w) - 1)) (ftSb q.2.2 q.1) 1 4)) ((q.1 + 1) - 1) ((upd (q.2.2 4) q.1 (ftEvV v x (ftEnd v (sf 7) (N - 1) ((x + w) - 1)) (ftSb q.2.2 q.1) 1 4)) ((q.1 + 1) - 1))))), (r5, .inl (cI, 30, .inl (upd (q.2.2 5) q.1 (ftEvV v x (ftEnd v (sf 7) (N - 1) ((x + w) - 1)) (ftSb q.2.2 q.1) 1 5)))), (r6, .inl (cI, 30, .inl (upd (q.2.2 6) q.1 (ftEvV v x (ftEnd v (sf 7) (N - 1) ((x + w) - 1)) (ftSb q.2.2 q.1) 1 6)))), (r7, .inl (cI, 30, .inl (upd (q.2.2 7) q.1 (ftEvV v x (ftEnd v (sf 7) (N - 1) ((x + w) - 1)) (ftSb q.2.2 q.1) 1 7)))), (va, .inl (cI, 460, .inl v)), (s0, .inl (cI, 11, .inl sf))] H := hP
                      have hD : va_D A [(a0, .inr (7, [.ref r0, .ref r1, .ref r2, .ref r3, .ref r4, .ref r5, .ref r6, .ref r7, .int (nI (q.1 + 1)), .int (sf 9)])), (r0, .inl (cI, 30, .inl (upd (q.2.2 0) q.1 (ftEvV v x (ftEnd v (sf 7) (N - 1) ((x + w) - 1)) (ftSb q.2.2 q.1) 1 0)))), (r1, .inl (cI, 30, .inl (upd (q.2.2 1) q.1 (ftEvV v x (ftEnd v (sf 7) (N - 1) ((x + w) - 1)) (ftSb q.2.2 q.1) 1 1)))), (r2, .inl (cI, 30, .inl (upd (q.2.2 2) q.1 (ftEvV v x (ftEnd v (sf 7) (N - 1) ((x + w) - 1)) (ftSb q.2.2 q.1) 1 2)))), (r3, .inl (cI, 30, .inl (upd (q.2.2 3) q.1 (ftEvV v x (ftEnd v (sf 7) (N - 1) ((x + w) - 1)) (ftSb q.2.2 q.1) 1 3)))), (r4, .inl (cI, 30, .inl (upd (upd (q.2.2 4) q.1 (ftEvV v x (ftEnd v (sf 7) (N - 1) ((x + w) - 1)) (ftSb q.2.2 q.1) 1 4)) ((q.1 + 1) - 1) ((upd (q.2.2 4) q.1 (ftEvV v x (ftEnd v (sf 7) (N - 1) ((x + w) - 1)) (ftSb q.2.2 q.1) 1 4)) ((q.1 + 1) - 1))))), (r5, .inl (cI, 30, .inl (upd (q.2.2 5) q.1 (ftEvV v x (ftEnd v (sf 7) (N - 1) ((x + w) - 1)) (ftSb q.2.2 q.1) 1 5)))), (r6, .inl (cI, 30, .inl (upd (q.2.2 6) q.1 (ftEvV v x (ftEnd v (sf 7) (N - 1) ((x + w) - 1)) (ftSb q.2.2 q.1) 1 6)))), (r7, .inl (cI, 30, .inl (upd (q.2.2 7) q.1 (ftEvV v x (ftEnd v (sf 7) (N - 1) ((x + w) - 1)) (ftSb q.2.2 q.1) 1 7)))), (va, .inl (cI, 460, .inl v)), (s0, .inl (cI, 11, .inl sf))] := hD
                      refine lv_iload hx hb dX7_read_198 (lv_at hl 9 rfl) ?_
                      refine lv_iload hx hb dX7_read_200 (lv_at hl 1 rfl) ?_
                      refine va_mmax hx hb (hml.trans hl.1.symm) hown (hts (.methodLink RX7 59 Lib.Math.max.name) (by decide +kernel)) (hts (.static Lib.Math.max.name) (by decide +kernel)) (hts (.initialized "java/lang/Math") (by decide +kernel)) (hts (.code Lib.Math.max.name Lib.Math.max.code 2 (some .int)) (by decide +kernel)) (Nat.le_of_ble_eq_true rfl) (Nat.le_of_ble_eq_true rfl) (Nat.le_of_ble_eq_true rfl) (Nat.le_of_ble_eq_true rfl) dX7_read_202 ?_
                      refine ft_top (y := ftMax (nI x) (nI (ftEnd v (sf 7) (N - 1) ((x + w) - 1)))) rfl ?_
                      refine ft_top (y := nI (ftEnd v (sf 7) (N - 1) ((x + w) - 1))) (ft_maxN (by omega) (by omega)) ?_
                      refine lv_istore (lv' := [(5, .int (nI (ftEnd v (sf 7) (N - 1) ((x + w) - 1)))), (4, .int 0), (9, .int (nI (ftEnd v (sf 7) (N - 1) ((x + w) - 1)))), (8, .int (nI ((x + w) - 1))), (7, .int 1), (6, .int ((v x) - (v (x - 1)))), (0, .ref a0), (1, .ref va), (2, .int (nI N)), (3, .ref s0)]) hx hb dX7_read_205 hl (by decide) rfl (fun ls hl => ?_)
                      refine lv_iinc (v := nI (ftEnd v (sf 7) (N - 1) ((x + w) - 1) + 1)) (lv' := [(5, .int (nI (ftEnd v (sf 7) (N - 1) ((x + w) - 1) + 1))), (4, .int 0), (9, .int (nI (ftEnd v (sf 7) (N - 1) ((x + w) - 1)))), (8, .int (nI ((x + w) - 1))), (7, .int 1), (6, .int ((v x) - (v (x - 1)))), (0, .ref a0), (1, .ref va), (2, .int (nI N)), (3, .ref s0)]) hx hb dX7_read_207 hl (k := 0) rfl (ft_inc (ftEnd v (sf 7) (N - 1) ((x + w) - 1))) (by decide) rfl (fun ls hl => ?_)
                      refine lv_goto (tgt := 21) hx hb dX7_read_210 (by decide) ?_
                      exact ih21 (ftEnd v (sf 7) (N - 1) ((x + w) - 1) + 1) q9 0 (nI (ftEnd v (sf 7) (N - 1) ((x + w) - 1) + 1)) (nI (q.1 + 1)) (upd (q.2.2 0) q.1 (ftEvV v x (ftEnd v (sf 7) (N - 1) ((x + w) - 1)) (ftSb q.2.2 q.1) 1 0)) (upd (q.2.2 1) q.1 (ftEvV v x (ftEnd v (sf 7) (N - 1) ((x + w) - 1)) (ftSb q.2.2 q.1) 1 1)) (upd (q.2.2 2) q.1 (ftEvV v x (ftEnd v (sf 7) (N - 1) ((x + w) - 1)) (ftSb q.2.2 q.1) 1 2)) (upd (q.2.2 3) q.1 (ftEvV v x (ftEnd v (sf 7) (N - 1) ((x + w) - 1)) (ftSb q.2.2 q.1) 1 3)) (upd (upd (q.2.2 4) q.1 (ftEvV v x (ftEnd v (sf 7) (N - 1) ((x + w) - 1)) (ftSb q.2.2 q.1) 1 4)) ((q.1 + 1) - 1) ((upd (q.2.2 4) q.1 (ftEvV v x (ftEnd v (sf 7) (N - 1) ((x + w) - 1)) (ftSb q.2.2 q.1) 1 4)) ((q.1 + 1) - 1))) (upd (q.2.2 5) q.1 (ftEvV v x (ftEnd v (sf 7) (N - 1) ((x + w) - 1)) (ftSb q.2.2 q.1) 1 5)) (upd (q.2.2 6) q.1 (ftEvV v x (ftEnd v (sf 7) (N - 1) ((x + w) - 1)) (ftSb q.2.2 q.1) 1 6)) (upd (q.2.2 7) q.1 (ftEvV v x (ftEnd v (sf 7) (N - 1) ((x + w) - 1)) (ftSb q.2.2 q.1) 1 7)) (by omega) (by omega) (by omega) (by first | (rw [hq9]; exact hq30) | (rw [hq9]; exact h30)) (by first | (rw [hq9]; exact hsb) | (intro _; rw [hq9]; exact ⟨_, by omega, if_pos rfl⟩)) (by first | (rw [hq9, hres]; exact ftRdL_s hw c24n h30 c38 (Int32.not_le.mpr c66) (Int32.not_lt.mpr c90)) | (rw [hq9, hres]; exact ftRdL_p hw c24n h30 c38 (Int32.not_le.mpr c66) (Int32.not_le.mp c90) (by first | exact (if_pos (Int32.not_le.mp c142)).symm | exact (if_neg (Int32.not_lt.mpr c142)).symm)) | (rw [hq9, hres]; exact ftRdL_r hw c24n h30 c38 (Int32.not_lt.mp c66) (by first | exact (if_pos (Int32.not_le.mp c142)).symm | exact (if_neg (Int32.not_lt.mpr c142)).symm))) (by first | (rw [hq9]; done) | (rw [hq9]; rfl)) (by first | rfl | assumption) (by first | (rw [hq9]; done) | (rw [hq9]; rfl)) (by first | (rw [hq9]; done) | (rw [hq9]; rfl)) (by first | (rw [hq9]; done) | (rw [hq9]; rfl)) (by first | (rw [hq9]; done) | (rw [hq9]; rfl)) (by first | (rw [hq9]; done) | (rw [hq9]; rfl)) (by first | (rw [hq9]; done) | (first | (rw [hq9, ftUpd_same]; rfl) | (rw [hq9, ftUpd_same, ftUpd_at]; rfl))) (by first | (rw [hq9]; done) | (rw [hq9]; rfl)) (by first | (rw [hq9]; done) | (rw [hq9]; rfl)) (by first | (rw [hq9]; done) | (rw [hq9]; rfl)) _ _ hP hD hS ls (lv_sub hl [6, 7, 8, 9, 1, 0] rfl)
                    · exact absurd rfl c175
                  · refine lv_iconst (v := 1) hx hb dX7_read_145 (by decide) ?_
                    refine lv_goto (tgt := 150) hx hb dX7_read_146 (by decide) ?_
                    refine lv_istore (lv' := [(4, .int 1), (9, .int (nI (ftEnd v (sf 7) (N - 1) ((x + w) - 1)))), (8, .int (nI ((x + w) - 1))), (7, .int 1), (6, .int ((v x) - (v (x - 1)))), (0, .ref a0), (1, .ref va), (2, .int (nI N)), (3, .ref s0), (5, .int (nI x))]) hx hb dX7_read_150 hl (by decide) rfl (fun ls hl => ?_)
                    obtain ⟨q9, hq9⟩ : ∃ q9, q9 = ftRdEv v x (ftEnd v (sf 7) (N - 1) ((x + w) - 1)) 1 1 q := ⟨_, rfl⟩
                    have h30 : q.1 < 30 := by omega
                    refine lv_aload_n hx hb dX7_read_152 rfl (lv_at hl 5 rfl) ?_
                    refine lv_aload_n hx hb dX7_read_153 rfl (lv_at hl 6 rfl) ?_
                    refine lv_iload hx hb dX7_read_154 (lv_at hl 9 rfl) ?_
                    refine lv_iload hx hb dX7_read_156 (lv_at hl 1 rfl) ?_
                    refine lv_iload hx hb dX7_read_158 (lv_at hl 3 rfl) ?_
                    refine ft_cv (wc := [(a0, .inr (7, [.ref r0, .ref r1, .ref r2, .ref r3, .ref r4, .ref r5, .ref r6, .ref r7, .int (nI q.1), .int (sf 9)])), (r0, .inl (cI, 30, .inl (q.2.2 0))), (r1, .inl (cI, 30, .inl (q.2.2 1))), (r2, .inl (cI, 30, .inl (q.2.2 2))), (r3, .inl (cI, 30, .inl (q.2.2 3))), (r4, .inl (cI, 30, .inl (q.2.2 4))), (r5, .inl (cI, 30, .inl (q.2.2 5))), (r6, .inl (cI, 30, .inl (q.2.2 6))), (r7, .inl (cI, 30, .inl (q.2.2 7))), (va, .inl (cI, 460, .inl v))]) (wr := [(s0, .inl (cI, 11, .inl sf))]) (w1 := [(a0, .inr (7, [.ref r0, .ref r1, .ref r2, .ref r3, .ref r4, .ref r5, .ref r6, .ref r7, .int (nI (q.1 + 1)), .int (sf 9)])), (r0, .inl (cI, 30, .inl (upd (q.2.2 0) q.1 (ftEvV v x (ftEnd v (sf 7) (N - 1) ((x + w) - 1)) (ftSb q.2.2 q.1) 1 0)))), (r1, .inl (cI, 30, .inl (upd (q.2.2 1) q.1 (ftEvV v x (ftEnd v (sf 7) (N - 1) ((x + w) - 1)) (ftSb q.2.2 q.1) 1 1)))), (r2, .inl (cI, 30, .inl (upd (q.2.2 2) q.1 (ftEvV v x (ftEnd v (sf 7) (N - 1) ((x + w) - 1)) (ftSb q.2.2 q.1) 1 2)))), (r3, .inl (cI, 30, .inl (upd (q.2.2 3) q.1 (ftEvV v x (ftEnd v (sf 7) (N - 1) ((x + w) - 1)) (ftSb q.2.2 q.1) 1 3)))), (r4, .inl (cI, 30, .inl (upd (q.2.2 4) q.1 (ftEvV v x (ftEnd v (sf 7) (N - 1) ((x + w) - 1)) (ftSb q.2.2 q.1) 1 4)))), (r5, .inl (cI, 30, .inl (upd (q.2.2 5) q.1 (ftEvV v x (ftEnd v (sf 7) (N - 1) ((x + w) - 1)) (ftSb q.2.2 q.1) 1 5)))), (r6, .inl (cI, 30, .inl (upd (q.2.2 6) q.1 (ftEvV v x (ftEnd v (sf 7) (N - 1) ((x + w) - 1)) (ftSb q.2.2 q.1) 1 6)))), (r7, .inl (cI, 30, .inl (upd (q.2.2 7) q.1 (ftEvV v x (ftEnd v (sf 7) (N - 1) ((x + w) - 1)) (ftSb q.2.2 q.1) 1 7)))), (va, .inl (cI, 460, .inl v))]) (ws1 := [(a0, .inr (7, [.ref r0, .ref r1, .ref r2, .ref r3, .ref r4, .ref r5, .ref r6, .ref r7, .int (nI (q.1 + 1)), .int (sf 9)])), (r0, .inl (cI, 30, .inl (upd (q.2.2 0) q.1 (ftEvV v x (ftEnd v (sf 7) (N - 1) ((x + w) - 1)) (ftSb q.2.2 q.1) 1 0)))), (r1, .inl (cI, 30, .inl (upd (q.2.2 1) q.1 (ftEvV v x (ftEnd v (sf 7) (N - 1) ((x + w) - 1)) (ftSb q.2.2 q.1) 1 1)))), (r2, .inl (cI, 30, .inl (upd (q.2.2 2) q.1 (ftEvV v x (ftEnd v (sf 7) (N - 1) ((x + w) - 1)) (ftSb q.2.2 q.1) 1 2)))), (r3, .inl (cI, 30, .inl (upd (q.2.2 3) q.1 (ftEvV v x (ftEnd v (sf 7) (N - 1) ((x + w) - 1)) (ftSb q.2.2 q.1) 1 3)))), (r4, .inl (cI, 30, .inl (upd (q.2.2 4) q.1 (ftEvV v x (ftEnd v (sf 7) (N - 1) ((x + w) - 1)) (ftSb q.2.2 q.1) 1 4)))), (r5, .inl (cI, 30, .inl (upd (q.2.2 5) q.1 (ftEvV v x (ftEnd v (sf 7) (N - 1) ((x + w) - 1)) (ftSb q.2.2 q.1) 1 5)))), (r6, .inl (cI, 30, .inl (upd (q.2.2 6) q.1 (ftEvV v x (ftEnd v (sf 7) (N - 1) ((x + w) - 1)) (ftSb q.2.2 q.1) 1 6)))), (r7, .inl (cI, 30, .inl (upd (q.2.2 7) q.1 (ftEvV v x (ftEnd v (sf 7) (N - 1) ((x + w) - 1)) (ftSb q.2.2 q.1) 1 7)))), (va, .inl (cI, 460, .inl v)), (s0, .inl (cI, 11, .inl sf))]) (va_runV (C := RX7) (As := [.ref va, .int (nI x), .int (nI (ftEnd v (sf 7) (N - 1) ((x + w) - 1))), .int 1]) (rest := []) ⟨hx, hb, hml, hown, hts⟩ (c_X7_addEvent l D cI cS H.size a0 r0 r1 r2 r3 r4 r5 r6 r7 q.1 (sf 9) q.2.2 va v x (ftEnd v (sf 7) (N - 1) ((x + w) - 1)) 1 (by omega) hx1 hy2 (by omega) hsb) (cwV 4 hts gX7_read_X7_addEvent rfl rfl rfl (by decide +kernel) ⟨Nat.le_of_ble_eq_true rfl, Nat.le_of_ble_eq_true rfl⟩) (ft_preRWV (ci := 7) (q0 := 0) hP hD hKK [0, 1, 2, 3, 4, 5, 6, 7, 8, 9] rfl rfl rfl rfl rfl) rfl rfl hl.1 rfl (lv_room (Nat.le_of_ble_eq_true rfl)) dX7_read_160 ⟨Nat.le_of_ble_eq_true rfl, Nat.le_of_ble_eq_true rfl⟩) hP hD hS hA [0, 1, 2, 3, 4, 5, 6, 7, 8, 9] [10] [1, 2, 3, 4, 5, 6, 7, 8, 9, 10, 0] rfl rfl (by decide) (by decide) (by decide) rfl rfl (fun H locs hP hD hS => ?_)
                    have hP : va_P D vwCl [(a0, .inr (7, [.ref r0, .ref r1, .ref r2, .ref r3, .ref r4, .ref r5, .ref r6, .ref r7, .int (nI (q.1 + 1)), .int (sf 9)])), (r0, .inl (cI, 30, .inl (upd (q.2.2 0) q.1 (ftEvV v x (ftEnd v (sf 7) (N - 1) ((x + w) - 1)) (ftSb q.2.2 q.1) 1 0)))), (r1, .inl (cI, 30, .inl (upd (q.2.2 1) q.1 (ftEvV v x (ftEnd v (sf 7) (N - 1) ((x + w) - 1)) (ftSb q.2.2 q.1) 1 1)))), (r2, .inl (cI, 30, .inl (upd (q.2.2 2) q.1 (ftEvV v x (ftEnd v (sf 7) (N - 1) ((x + w) - 1)) (ftSb q.2.2 q.1) 1 2)))), (r3, .inl (cI, 30, .inl (upd (q.2.2 3) q.1 (ftEvV v x (ftEnd v (sf 7) (N - 1) ((x + w) - 1)) (ftSb q.2.2 q.1) 1 3)))), (r4, .inl (cI, 30, .inl (upd (q.2.2 4) q.1 (ftEvV v x (ftEnd v (sf 7) (N - 1) ((x + w) - 1)) (ftSb q.2.2 q.1) 1 4)))), (r5, .inl (cI, 30, .inl (upd (q.2.2 5) q.1 (ftEvV v x (ftEnd v (sf 7) (N - 1) ((x + w) - 1)) (ftSb q.2.2 q.1) 1 5)))), (r6, .inl (cI, 30, .inl (upd (q.2.2 6) q.1 (ftEvV v x (ftEnd v (sf 7) (N - 1) ((x + w) - 1)) (ftSb q.2.2 q.1) 1 6)))), (r7, .inl (cI, 30, .inl (upd (q.2.2 7) q.1 (ftEvV v x (ftEnd v (sf 7) (N - 1) ((x + w) - 1)) (ftSb q.2.2 q.1) 1 7)))), (va, .inl (cI, 460, .inl v)), (s0, .inl (cI, 11, .inl sf))] H := hP
                    have hD : va_D A [(a0, .inr (7, [.ref r0, .ref r1, .ref r2, .ref r3, .ref r4, .ref r5, .ref r6, .ref r7, .int (nI (q.1 + 1)), .int (sf 9)])), (r0, .inl (cI, 30, .inl (upd (q.2.2 0) q.1 (ftEvV v x (ftEnd v (sf 7) (N - 1) ((x + w) - 1)) (ftSb q.2.2 q.1) 1 0)))), (r1, .inl (cI, 30, .inl (upd (q.2.2 1) q.1 (ftEvV v x (ftEnd v (sf 7) (N - 1) ((x + w) - 1)) (ftSb q.2.2 q.1) 1 1)))), (r2, .inl (cI, 30, .inl (upd (q.2.2 2) q.1 (ftEvV v x (ftEnd v (sf 7) (N - 1) ((x + w) - 1)) (ftSb q.2.2 q.1) 1 2)))), (r3, .inl (cI, 30, .inl (upd (q.2.2 3) q.1 (ftEvV v x (ftEnd v (sf 7) (N - 1) ((x + w) - 1)) (ftSb q.2.2 q.1) 1 3)))), (r4, .inl (cI, 30, .inl (upd (q.2.2 4) q.1 (ftEvV v x (ftEnd v (sf 7) (N - 1) ((x + w) - 1)) (ftSb q.2.2 q.1) 1 4)))), (r5, .inl (cI, 30, .inl (upd (q.2.2 5) q.1 (ftEvV v x (ftEnd v (sf 7) (N - 1) ((x + w) - 1)) (ftSb q.2.2 q.1) 1 5)))), (r6, .inl (cI, 30, .inl (upd (q.2.2 6) q.1 (ftEvV v x (ftEnd v (sf 7) (N - 1) ((x + w) - 1)) (ftSb q.2.2 q.1) 1 6)))), (r7, .inl (cI, 30, .inl (upd (q.2.2 7) q.1 (ftEvV v x (ftEnd v (sf 7) (N - 1) ((x + w) - 1)) (ftSb q.2.2 q.1) 1 7)))), (va, .inl (cI, 460, .inl v)), (s0, .inl (cI, 11, .inl sf))] := hD
                    refine lv_aload_n hx hb dX7_read_163 rfl (lv_at hl 5 rfl) ?_
                    refine va_get (D := D) (ci := 7) (v := .ref r4) (C := RX7) (T := TX7) (N := 10) hx hb hts (by decide +kernel) hown hK hP 0 rfl rfl 4 (by decide) (hts (.fieldLink RX7 24 "FiberTrace$Reading" "kinds" "[I") (by decide +kernel)) (fun _ h9 => h9) rfl dX7_read_164 ?_
                    refine lv_aload_n hx hb dX7_read_167 rfl (lv_at hl 5 rfl) ?_
                    refine va_get (D := D) (ci := 7) (v := .int (nI (q.1 + 1))) (C := RX7) (T := TX7) (N := 10) hx hb hts (by decide +kernel) hown hK hP 0 rfl rfl 8 (by decide) (hts (.fieldLink RX7 36 "FiberTrace$Reading" "size" "I") (by decide +kernel)) (fun _ h9 => h9) rfl dX7_read_168 ?_
                    refine lv_iconst (v := 1) hx hb dX7_read_171 (by decide) ?_
                    refine lv_isub hx hb dX7_read_172 ?_
                    refine ft_top (y := nI ((q.1 + 1) - 1)) (ft_subN (a := q.1 + 1) (b := 1) (by omega)) ?_
                    refine lv_iload hx hb dX7_read_173 (lv_at hl 0 rfl) ?_
                    refine lv_if_eq (tgt := 182) hx hb dX7_read_175 (by decide) (fun c175 => ?_) (fun c175 => ?_)
                    · exact absurd c175 (by decide)
                    · refine lv_iconst (v := 3) hx hb dX7_read_178 (by decide) ?_
                      refine lv_goto (tgt := 195) hx hb dX7_read_179 (by decide) ?_
                      refine ft_cv (wc := [(r4, .inl (cI, 30, .inl (upd (q.2.2 4) q.1 (ftEvV v x (ftEnd v (sf 7) (N - 1) ((x + w) - 1)) (ftSb q.2.2 q.1) 1 4))))]) (wr := [(a0, .inr (7, [.ref r0, .ref r1, .ref r2, .ref r3, .ref r4, .ref r5, .ref r6, .ref r7, .int (nI (q.1 + 1)), .int (sf 9)])), (r0, .inl (cI, 30, .inl (upd (q.2.2 0) q.1 (ftEvV v x (ftEnd v (sf 7) (N - 1) ((x + w) - 1)) (ftSb q.2.2 q.1) 1 0)))), (r1, .inl (cI, 30, .inl (upd (q.2.2 1) q.1 (ftEvV v x (ftEnd v (sf 7) (N - 1) ((x + w) - 1)) (ftSb q.2.2 q.1) 1 1)))), (r2, .inl (cI, 30, .inl (upd (q.2.2 2) q.1 (ftEvV v x (ftEnd v (sf 7) (N - 1) ((x + w) - 1)) (ftSb q.2.2 q.1) 1 2)))), (r3, .inl (cI, 30, .inl (upd (q.2.2 3) q.1 (ftEvV v x (ftEnd v (sf 7) (N - 1) ((x + w) - 1)) (ftSb q.2.2 q.1) 1 3)))), (r5, .inl (cI, 30, .inl (upd (q.2.2 5) q.1 (ftEvV v x (ftEnd v (sf 7) (N - 1) ((x + w) - 1)) (ftSb q.2.2 q.1) 1 5)))), (r6, .inl (cI, 30, .inl (upd (q.2.2 6) q.1 (ftEvV v x (ftEnd v (sf 7) (N - 1) ((x + w) - 1)) (ftSb q.2.2 q.1) 1 6)))), (r7, .inl (cI, 30, .inl (upd (q.2.2 7) q.1 (ftEvV v x (ftEnd v (sf 7) (N - 1) ((x + w) - 1)) (ftSb q.2.2 q.1) 1 7)))), (va, .inl (cI, 460, .inl v)), (s0, .inl (cI, 11, .inl sf))]) (w1 := [(r4, .inl (cI, 30, .inl (ftPut 30 (upd (q.2.2 4) q.1 (ftEvV v x (ftEnd v (sf 7) (N - 1) ((x + w) - 1)) (ftSb q.2.2 q.1) 1 4)) (nI ((q.1 + 1) - 1)) 3)))]) (ws1 := [(a0, .inr (7, [.ref r0, .ref r1, .ref r2, .ref r3, .ref r4, .ref r5, .ref r6, .ref r7, .int (nI (q.1 + 1)), .int (sf 9)])), (r0, .inl (cI, 30, .inl (upd (q.2.2 0) q.1 (ftEvV v x (ftEnd v (sf 7) (N - 1) ((x + w) - 1)) (ftSb q.2.2 q.1) 1 0)))), (r1, .inl (cI, 30, .inl (upd (q.2.2 1) q.1 (ftEvV v x (ftEnd v (sf 7) (N - 1) ((x + w) - 1)) (ftSb q.2.2 q.1) 1 1)))), (r2, .inl (cI, 30, .inl (upd (q.2.2 2) q.1 (ftEvV v x (ftEnd v (sf 7) (N - 1) ((x + w) - 1)) (ftSb q.2.2 q.1) 1 2)))), (r3, .inl (cI, 30, .inl (upd (q.2.2 3) q.1 (ftEvV v x (ftEnd v (sf 7) (N - 1) ((x + w) - 1)) (ftSb q.2.2 q.1) 1 3)))), (r4, .inl (cI, 30, .inl (ftPut 30 (upd (q.2.2 4) q.1 (ftEvV v x (ftEnd v (sf 7) (N - 1) ((x + w) - 1)) (ftSb q.2.2 q.1) 1 4)) (nI ((q.1 + 1) - 1)) 3))), (r5, .inl (cI, 30, .inl (upd (q.2.2 5) q.1 (ftEvV v x (ftEnd v (sf 7) (N - 1) ((x + w) - 1)) (ftSb q.2.2 q.1) 1 5)))), (r6, .inl (cI, 30, .inl (upd (q.2.2 6) q.1 (ftEvV v x (ftEnd v (sf 7) (N - 1) ((x + w) - 1)) (ftSb q.2.2 q.1) 1 6)))), (r7, .inl (cI, 30, .inl (upd (q.2.2 7) q.1 (ftEvV v x (ftEnd v (sf 7) (N - 1) ((x + w) - 1)) (ftSb q.2.2 q.1) 1 7)))), (va, .inl (cI, 460, .inl v)), (s0, .inl (cI, 11, .inl sf))]) (va_runSN (As := [.ref r4, .int (nI ((q.1 + 1) - 1)), .int 3]) (rest := []) ⟨hx, hb, hml, hown, hts⟩ (c_X10_put l D cI cS H.size r4 30 (upd (q.2.2 4) q.1 (ftEvV v x (ftEnd v (sf 7) (N - 1) ((x + w) - 1)) (ftSb q.2.2 q.1) 1 4)) (nI ((q.1 + 1) - 1)) 3 (by first | assumption | omega)) ⟨va_cnB 3 hts gX7_read_X10_put_n55 rfl rfl rfl (hKK.2 _ (List.mem_of_getElem? (i := 23) rfl)) (hts (.initialized RX10) (by decide +kernel)) (by decide +kernel) ⟨Nat.le_of_ble_eq_true rfl, Nat.le_of_ble_eq_true rfl⟩, hts (.static yX10_put) (by decide +kernel), trivial⟩ (ft_preRW hP hD hKK [5] rfl rfl rfl) rfl rfl hl.1 rfl (lv_room (Nat.le_of_ble_eq_true rfl)) dX7_read_195 ⟨Nat.le_of_ble_eq_true rfl, Nat.le_of_ble_eq_true rfl⟩) hP hD hS hA [5] [0, 1, 2, 3, 4, 6, 7, 8, 9, 10] [0, 1, 2, 3, 4, 10, 5, 6, 7, 8, 9] rfl rfl (by decide) (by decide) (by decide) rfl rfl (fun H locs hP hD hS => ?_)
                      rw [ftPut_N (k := (q.1 + 1) - 1) (by omega) (by omega)] at hP hD
                      have hP : va_P D vwCl [(a0, .inr (7, [.ref r0, .ref r1, .ref r2, .ref r3, .ref r4, .ref r5, .ref r6, .ref r7, .int (nI (q.1 + 1)), .int (sf 9)])), (r0, .inl (cI, 30, .inl (upd (q.2.2 0) q.1 (ftEvV v x (ftEnd v (sf 7) (N - 1) ((x + w) - 1)) (ftSb q.2.2 q.1) 1 0)))), (r1, .inl (cI, 30, .inl (upd (q.2.2 1) q.1 (ftEvV v x (ftEnd v (sf 7) (N - 1) ((x + w) - 1)) (ftSb q.2.2 q.1) 1 1)))), (r2, .inl (cI, 30, .inl (upd (q.2.2 2) q.1 (ftEvV v x (ftEnd v (sf 7) (N - 1) ((x + w) - 1)) (ftSb q.2.2 q.1) 1 2)))), (r3, .inl (cI, 30, .inl (upd (q.2.2 3) q.1 (ftEvV v x (ftEnd v (sf 7) (N - 1) ((x + w) - 1)) (ftSb q.2.2 q.1) 1 3)))), (r4, .inl (cI, 30, .inl (upd (upd (q.2.2 4) q.1 (ftEvV v x (ftEnd v (sf 7) (N - 1) ((x + w) - 1)) (ftSb q.2.2 q.1) 1 4)) ((q.1 + 1) - 1) 3))), (r5, .inl (cI, 30, .inl (upd (q.2.2 5) q.1 (ftEvV v x (ftEnd v (sf 7) (N - 1) ((x + w) - 1)) (ftSb q.2.2 q.1) 1 5)))), (r6, .inl (cI, 30, .inl (upd (q.2.2 6) q.1 (ftEvV v x (ftEnd v (sf 7) (N - 1) ((x + w) - 1)) (ftSb q.2.2 q.1) 1 6)))), (r7, .inl (cI, 30, .inl (upd (q.2.2 7) q.1 (ftEvV v x (ftEnd v (sf 7) (N - 1) ((x + w) - 1)) (ftSb q.2.2 q.1) 1 7)))), (va, .inl (cI, 460, .inl v)), (s0, .inl (cI, 11, .inl sf))] H := hP
                      have hD : va_D A [(a0, .inr (7, [.ref r0, .ref r1, .ref r2, .ref r3, .ref r4, .ref r5, .ref r6, .ref r7, .int (nI (q.1 + 1)), .int (sf 9)])), (r0, .inl (cI, 30, .inl (upd (q.2.2 0) q.1 (ftEvV v x (ftEnd v (sf 7) (N - 1) ((x + w) - 1)) (ftSb q.2.2 q.1) 1 0)))), (r1, .inl (cI, 30, .inl (upd (q.2.2 1) q.1 (ftEvV v x (ftEnd v (sf 7) (N - 1) ((x + w) - 1)) (ftSb q.2.2 q.1) 1 1)))), (r2, .inl (cI, 30, .inl (upd (q.2.2 2) q.1 (ftEvV v x (ftEnd v (sf 7) (N - 1) ((x + w) - 1)) (ftSb q.2.2 q.1) 1 2)))), (r3, .inl (cI, 30, .inl (upd (q.2.2 3) q.1 (ftEvV v x (ftEnd v (sf 7) (N - 1) ((x + w) - 1)) (ftSb q.2.2 q.1) 1 3)))), (r4, .inl (cI, 30, .inl (upd (upd (q.2.2 4) q.1 (ftEvV v x (ftEnd v (sf 7) (N - 1) ((x + w) - 1)) (ftSb q.2.2 q.1) 1 4)) ((q.1 + 1) - 1) 3))), (r5, .inl (cI, 30, .inl (upd (q.2.2 5) q.1 (ftEvV v x (ftEnd v (sf 7) (N - 1) ((x + w) - 1)) (ftSb q.2.2 q.1) 1 5)))), (r6, .inl (cI, 30, .inl (upd (q.2.2 6) q.1 (ftEvV v x (ftEnd v (sf 7) (N - 1) ((x + w) - 1)) (ftSb q.2.2 q.1) 1 6)))), (r7, .inl (cI, 30, .inl (upd (q.2.2 7) q.1 (ftEvV v x (ftEnd v (sf 7) (N - 1) ((x + w) - 1)) (ftSb q.2.2 q.1) 1 7)))), (va, .inl (cI, 460, .inl v)), (s0, .inl (cI, 11, .inl sf))] := hD
                      refine lv_iload hx hb dX7_read_198 (lv_at hl 9 rfl) ?_
                      refine lv_iload hx hb dX7_read_200 (lv_at hl 1 rfl) ?_
                      refine va_mmax hx hb (hml.trans hl.1.symm) hown (hts (.methodLink RX7 59 Lib.Math.max.name) (by decide +kernel)) (hts (.static Lib.Math.max.name) (by decide +kernel)) (hts (.initialized "java/lang/Math") (by decide +kernel)) (hts (.code Lib.Math.max.name Lib.Math.max.code 2 (some .int)) (by decide +kernel)) (Nat.le_of_ble_eq_true rfl) (Nat.le_of_ble_eq_true rfl) (Nat.le_of_ble_eq_true rfl) (Nat.le_of_ble_eq_true rfl) dX7_read_202 ?_
                      refine ft_top (y := ftMax (nI x) (nI (ftEnd v (sf 7) (N - 1) ((x + w) - 1)))) rfl ?_
                      refine ft_top (y := nI (ftEnd v (sf 7) (N - 1) ((x + w) - 1))) (ft_maxN (by omega) (by omega)) ?_
                      refine lv_istore (lv' := [(5, .int (nI (ftEnd v (sf 7) (N - 1) ((x + w) - 1)))), (4, .int 1), (9, .int (nI (ftEnd v (sf 7) (N - 1) ((x + w) - 1)))), (8, .int (nI ((x + w) - 1))), (7, .int 1), (6, .int ((v x) - (v (x - 1)))), (0, .ref a0), (1, .ref va), (2, .int (nI N)), (3, .ref s0)]) hx hb dX7_read_205 hl (by decide) rfl (fun ls hl => ?_)
                      refine lv_iinc (v := nI (ftEnd v (sf 7) (N - 1) ((x + w) - 1) + 1)) (lv' := [(5, .int (nI (ftEnd v (sf 7) (N - 1) ((x + w) - 1) + 1))), (4, .int 1), (9, .int (nI (ftEnd v (sf 7) (N - 1) ((x + w) - 1)))), (8, .int (nI ((x + w) - 1))), (7, .int 1), (6, .int ((v x) - (v (x - 1)))), (0, .ref a0), (1, .ref va), (2, .int (nI N)), (3, .ref s0)]) hx hb dX7_read_207 hl (k := 0) rfl (ft_inc (ftEnd v (sf 7) (N - 1) ((x + w) - 1))) (by decide) rfl (fun ls hl => ?_)
                      refine lv_goto (tgt := 21) hx hb dX7_read_210 (by decide) ?_
                      exact ih21 (ftEnd v (sf 7) (N - 1) ((x + w) - 1) + 1) q9 1 (nI (ftEnd v (sf 7) (N - 1) ((x + w) - 1) + 1)) (nI (q.1 + 1)) (upd (q.2.2 0) q.1 (ftEvV v x (ftEnd v (sf 7) (N - 1) ((x + w) - 1)) (ftSb q.2.2 q.1) 1 0)) (upd (q.2.2 1) q.1 (ftEvV v x (ftEnd v (sf 7) (N - 1) ((x + w) - 1)) (ftSb q.2.2 q.1) 1 1)) (upd (q.2.2 2) q.1 (ftEvV v x (ftEnd v (sf 7) (N - 1) ((x + w) - 1)) (ftSb q.2.2 q.1) 1 2)) (upd (q.2.2 3) q.1 (ftEvV v x (ftEnd v (sf 7) (N - 1) ((x + w) - 1)) (ftSb q.2.2 q.1) 1 3)) (upd (upd (q.2.2 4) q.1 (ftEvV v x (ftEnd v (sf 7) (N - 1) ((x + w) - 1)) (ftSb q.2.2 q.1) 1 4)) ((q.1 + 1) - 1) 3) (upd (q.2.2 5) q.1 (ftEvV v x (ftEnd v (sf 7) (N - 1) ((x + w) - 1)) (ftSb q.2.2 q.1) 1 5)) (upd (q.2.2 6) q.1 (ftEvV v x (ftEnd v (sf 7) (N - 1) ((x + w) - 1)) (ftSb q.2.2 q.1) 1 6)) (upd (q.2.2 7) q.1 (ftEvV v x (ftEnd v (sf 7) (N - 1) ((x + w) - 1)) (ftSb q.2.2 q.1) 1 7)) (by omega) (by omega) (by omega) (by first | (rw [hq9]; exact hq30) | (rw [hq9]; exact h30)) (by first | (rw [hq9]; exact hsb) | (intro _; rw [hq9]; exact ⟨_, by omega, if_pos rfl⟩)) (by first | (rw [hq9, hres]; exact ftRdL_s hw c24n h30 c38 (Int32.not_le.mpr c66) (Int32.not_lt.mpr c90)) | (rw [hq9, hres]; exact ftRdL_p hw c24n h30 c38 (Int32.not_le.mpr c66) (Int32.not_le.mp c90) (by first | exact (if_pos (Int32.not_le.mp c142)).symm | exact (if_neg (Int32.not_lt.mpr c142)).symm)) | (rw [hq9, hres]; exact ftRdL_r hw c24n h30 c38 (Int32.not_lt.mp c66) (by first | exact (if_pos (Int32.not_le.mp c142)).symm | exact (if_neg (Int32.not_lt.mpr c142)).symm))) (by first | (rw [hq9]; done) | (rw [hq9]; rfl)) (by first | rfl | assumption) (by first | (rw [hq9]; done) | (rw [hq9]; rfl)) (by first | (rw [hq9]; done) | (rw [hq9]; rfl)) (by first | (rw [hq9]; done) | (rw [hq9]; rfl)) (by first | (rw [hq9]; done) | (rw [hq9]; rfl)) (by first | (rw [hq9]; done) | (rw [hq9]; rfl)) (by first | (rw [hq9]; done) | (first | (rw [hq9, ftUpd_same]; rfl) | (rw [hq9, ftUpd_same, ftUpd_at]; rfl))) (by first | (rw [hq9]; done) | (rw [hq9]; rfl)) (by first | (rw [hq9]; done) | (rw [hq9]; rfl)) (by first | (rw [hq9]; done) | (rw [hq9]; rfl)) _ _ hP hD hS ls (lv_sub hl [6, 7, 8, 9, 1, 0] rfl)
              · exact absurd c78 (by decide)
  exact lp21 _ 1 (0, 0, ro) 0 1 0 (ro 0) (ro 1) (ro 2) (ro 3) (ro 4) (ro 5) (ro 6) (ro 7) (Nat.lt_succ_self _) (by omega) (by omega) (by omega) (by intro h; exact absurd h (Nat.lt_irrefl 0)) (by rfl) (by rfl) (by rfl) (by rfl) (by rfl) (by rfl) (by rfl) (by rfl) (by rfl) (by rfl) (by rfl) (by rfl) _ _ hP hD hS ls (lv_sub hl [2, 3, 4, 5, 1, 0] rfl)
end
section
/-! reading: ghosts, questions -/
def ftMk (ro : Nat → Nat → Int32) (tl : Int32) (i j e : Nat) : Prop := ro 4 i = 1 ∧ ro 4 j = 1 ∧ ftAbs (2 * ro 0 j - ro 0 i - ro 0 e) ≤ tl
noncomputable def ftMkIn (ro : Nat → Nat → Int32) (tl : Int32) (i e : Nat) : Nat → Option Nat
  | 0 => none
  | k + 1 => @ite _ (ftMk ro tl i (e - (k + 1)) e) (Classical.propDecidable _) (some (e - (k + 1))) (ftMkIn ro tl i e k)
noncomputable def ftMkOut (ro : Nat → Nat → Int32) (tl : Int32) (e : Nat) : Nat → Option (Nat × Nat)
  | 0 => none
  | k + 1 => match ftMkIn ro tl (e - (k + 1)) e (e - (e - (k + 1) + 1)) with
    | some j => some (e - (k + 1), j)
    | none => ftMkOut ro tl e k
theorem ftMkIn_hit {ro : Nat → Nat → Int32} {tl : Int32} {i j e : Nat} (hj : j < e) (h : ftMk ro tl i j e) : ftMkIn ro tl i e (e - j) = some j := by
  obtain ⟨k, hk⟩ : ∃ k, e - j = k + 1 := ⟨e - j - 1, by omega⟩
  rw [hk, ftMkIn, show e - (k + 1) = j by omega]
  exact if_pos h
theorem ftMkIn_go {ro : Nat → Nat → Int32} {tl : Int32} {i j e : Nat} (hj : j < e) (h : ¬ ftMk ro tl i j e) : ftMkIn ro tl i e (e - j) = ftMkIn ro tl i e (e - (j + 1)) := by
  obtain ⟨k, hk⟩ : ∃ k, e - j = k + 1 := ⟨e - j - 1, by omega⟩
  rw [hk, ftMkIn, show e - (k + 1) = j by omega, show e - (j + 1) = k by omega]
  exact if_neg h
theorem ftMkIn_end {ro : Nat → Nat → Int32} {tl : Int32} {i j e : Nat} (hj : e ≤ j) : ftMkIn ro tl i e (e - j) = none := by
  rw [show e - j = 0 by omega]; rfl
theorem ftMkOut_hit {ro : Nat → Nat → Int32} {tl : Int32} {i j e : Nat} (hi : i < e) (h : ftMkIn ro tl i e (e - (i + 1)) = some j) : ftMkOut ro tl e (e - i) = some (i, j) := by
  obtain ⟨k, hk⟩ : ∃ k, e - i = k + 1 := ⟨e - i - 1, by omega⟩
  rw [hk, ftMkOut, show e - (k + 1) = i by omega, h]
theorem ftMkOut_go {ro : Nat → Nat → Int32} {tl : Int32} {i e : Nat} (hi : i < e) (h : ftMkIn ro tl i e (e - (i + 1)) = none) : ftMkOut ro tl e (e - i) = ftMkOut ro tl e (e - (i + 1)) := by
  obtain ⟨k, hk⟩ : ∃ k, e - i = k + 1 := ⟨e - i - 1, by omega⟩
  rw [hk, ftMkOut, show e - (k + 1) = i by omega, h, show e - (i + 1) = k by omega]
theorem ftMkOut_end {ro : Nat → Nat → Int32} {tl : Int32} {i e : Nat} (hi : e ≤ i) : ftMkOut ro tl e (e - i) = none := by
  rw [show e - i = 0 by omega]; rfl
def ftMkSet (ro : Nat → Nat → Int32) (e i j c : Nat) : Nat → Int32 := if c = 4 then upd (ro 4) e 2 else if c = 6 then upd (ro 6) e (nI i) else if c = 7 then upd (ro 7) e (nI j) else ro c
noncomputable def ftMkRow (ro : Nat → Nat → Int32) (tl : Int32) (e : Nat) : Nat → Nat → Int32 := match ftMkOut ro tl e e with
  | none => ro
  | some (i, j) => ftMkSet ro e i j
theorem ftMkRow_some {ro : Nat → Nat → Int32} {tl : Int32} {e i j : Nat} (h : ftMkOut ro tl e e = some (i, j)) : ftMkRow ro tl e = ftMkSet ro e i j := by unfold ftMkRow; rw [h]
theorem ftMkRow_none {ro : Nat → Nat → Int32} {tl : Int32} {e : Nat} (h : ftMkOut ro tl e e = none) : ftMkRow ro tl e = ro := by unfold ftMkRow; rw [h]
noncomputable def ftGhosts (ro : Nat → Nat → Int32) (tl gl : Int32) : Nat → (Nat → Nat → Int32)
  | 0 => ro
  | i + 1 => @ite _ (ftGhosts ro tl gl i 4 i = 1 ∧ ftAbs (ftGhosts ro tl gl i 2 i) ≤ gl) (Classical.propDecidable _) (ftMkRow (ftGhosts ro tl gl i) tl i) (ftGhosts ro tl gl i)
theorem ftGhosts_t {ro rg : Nat → Nat → Int32} {tl gl : Int32} {i : Nat} (e : rg = ftGhosts ro tl gl i) (h : rg 4 i = 1 ∧ ftAbs (rg 2 i) ≤ gl) : ftMkRow rg tl i = ftGhosts ro tl gl (i + 1) := by
  subst e; exact (if_pos h).symm
theorem ftGhosts_f {ro rg : Nat → Nat → Int32} {tl gl : Int32} {i : Nat} (e : rg = ftGhosts ro tl gl i) (h : ¬ (rg 4 i = 1 ∧ ftAbs (rg 2 i) ≤ gl)) : rg = ftGhosts ro tl gl (i + 1) := by
  subst e; exact (if_neg h).symm
noncomputable def ftCount (P : Nat → Prop) : Nat → Int32
  | 0 => 0
  | i + 1 => ftCount P i + ftB (P i)
theorem ftCount_t {P : Nat → Prop} {i : Nat} {x : Int32} (e : x = ftCount P i) (h : P i) : x + 1 = ftCount P (i + 1) := by rw [e, ftCount, ftB_t h]
theorem ftCount_f {P : Nat → Prop} {i : Nat} {x : Int32} (e : x = ftCount P i) (h : ¬ P i) : x + 0 = ftCount P (i + 1) := by rw [e, ftCount, ftB_f h]
/-- the first place of k with P, or -1 -/
noncomputable def ftFst (P : Nat → Prop) : Nat → Int32
  | 0 => -1
  | k + 1 => if ftFst P k = -1 then @ite _ (P k) (Classical.propDecidable _) (nI k) (-1) else ftFst P k
theorem ftFst_none {P : Nat → Prop} {k : Nat} (h : ∀ t, t < k → ¬ P t) : ftFst P k = -1 := by
  induction k with
  | zero => rfl
  | succ k ih => rw [ftFst, if_pos (ih (fun t ht => h t (by omega)))]; exact if_neg (h k (by omega))
theorem ft_nIm1 {i : Nat} (h : i < 2 ^ 31) : ¬ nI i = -1 := fun q => by
  have := nI_pos' h
  rw [q] at this
  exact absurd this (by decide)
theorem ftFst_some {P : Nat → Prop} {i : Nat} (hi2 : i < 2 ^ 31) (hp : P i) (h : ∀ t, t < i → ¬ P t) : ∀ k, i < k → ftFst P k = nI i := by
  intro k
  induction k with
  | zero => intro q; omega
  | succ k ih =>
    intro q
    by_cases r : i = k
    · subst r; rw [ftFst, if_pos (ftFst_none h)]; exact if_pos hp
    · rw [ftFst, ih (by omega), if_neg (ft_nIm1 hi2)]
def ftNear (tl a b : Int32) : Prop := ftAbs (a - b) ≤ tl
noncomputable def ftCov (ro : Nat → Nat → Int32) (k : Nat) (x : Int32) : Int32 := ftFst (fun i => ro 0 i ≤ x ∧ x ≤ ro 1 i) k
noncomputable def ftFinder (ro : Nat → Nat → Int32) (k : Nat) (tl x : Int32) : Int32 := ftFst (fun i => ¬ ro 4 i = 2 ∧ ftNear tl (ro 0 i) x) k
noncomputable def ftFinding (ro : Nat → Nat → Int32) (k : Nat) (tl x kd : Int32) : Int32 := if kd = 2 then 2 else if ftFinder ro k tl x = -1 then (if ftCov ro k x = -1 then 2 else 1) else 0
noncomputable def ftWitness (ro : Nat → Nat → Int32) (k : Nat) (tl x kd : Int32) : Int32 := if ftFinding ro k tl x kd = 0 then ftFinder ro k tl x else if ftFinding ro k tl x kd = 1 then ftCov ro k x else -1
noncomputable def ftFindings (ro : Nat → Nat → Int32) (k : Nat) (tl : Int32) (kf pf : Nat → Int32) (fd : Int32) (n : Nat) : Int32 := ftCount (fun i => ¬ kf i = 2 ∧ ftFinding ro k tl (pf i) (kf i) = fd) n
def ftNearJ (tl : Int32) (kf pf : Nat → Int32) (n : Nat) (x : Int32) : Prop := ∃ i, i < n ∧ ¬ kf i = 2 ∧ ftNear tl (pf i) x
noncomputable def ftStrange (ro : Nat → Nat → Int32) (k : Nat) (tl : Int32) (kf pf : Nat → Int32) (n : Nat) : Int32 := ftCount (fun i => (ro 4 i = 0 ∨ ro 4 i = 1) ∧ ¬ ftNearJ tl kf pf n (ro 0 i)) k
def ftLossG (ro : Nat → Nat → Int32) : Nat → Int32
  | 0 => 0
  | i + 1 => ftLossG ro i + (if ro 4 i = 2 then ro 2 i else 0)
def ftWorst (ro : Nat → Nat → Int32) : Nat → Int32
  | 0 => -1
  | i + 1 => if ¬ ro 4 i = 3 ∧ (ftWorst ro i = -1 ∨ ftAt 30 (ro 2) (ftWorst ro i) < ro 2 i) then nI i else ftWorst ro i
theorem ftWorst_n {ro : Nat → Nat → Int32} {x : Int32} {i : Nat} (e : x = ftWorst ro i) (h1 : ¬ ro 4 i = 3) (h : x = -1 ∨ ftAt 30 (ro 2) x < ro 2 i) : nI i = ftWorst ro (i + 1) := by subst e; exact (if_pos ⟨h1, h⟩).symm
theorem ftWorst_k3 {ro : Nat → Nat → Int32} {x : Int32} {i : Nat} (e : x = ftWorst ro i) (h1 : ro 4 i = 3) : x = ftWorst ro (i + 1) := by subst e; exact (if_neg (fun q => q.1 h1)).symm
theorem ftWorst_k {ro : Nat → Nat → Int32} {x : Int32} {i : Nat} (e : x = ftWorst ro i) (h1 : ¬ x = -1) (h : ro 2 i ≤ ftAt 30 (ro 2) x) : x = ftWorst ro (i + 1) := by subst e; exact (if_neg (fun q => q.2.elim h1 (fun r => absurd r (Int32.not_lt.mpr h)))).symm
set_option maxHeartbeats 4000000 in
set_option maxRecDepth 100000 in
theorem c_X7_makeGhost (l : Launch) (D : va_G) (cI cS : ClassId) (a0 r0 r1 r2 r3 r4 r5 r6 r7 k : Nat) (tl : Int32) (ro : Nat → Nat → Int32) (i j e2 : Nat) (hi : i < 30) (hj : j < 30) (he : e2 < 30) : Met l yX7_makeGhost wsX7_makeGhost ({ frames := 1, cells := 0, slots := 0, locals := 30 }) (ftRO D cI cS [.ref a0, .int (nI i), .int (nI j), .int (nI e2)] [(a0, .inr (7, [.ref r0, .ref r1, .ref r2, .ref r3, .ref r4, .ref r5, .ref r6, .ref r7, .int (nI k), .int tl])), (r0, .inl (cI, 30, .inl (ro 0))), (r4, .inl (cI, 30, .inl (ro 4)))]) (vp_Si (fun o9 => o9 = ftB (ftMk ro tl i j e2))) 0 0 (fun _ => False) := by
  refine Met.ofW (cc := cX7_makeGhost) (maxL := 5) (ret := (some .boolean)) (by decide) rfl ?_
  intro p e s m args below meth c s₁ B hml hv
  obtain ⟨rfl, hP, hKK⟩ := hv
  have hK := hKK.1
  have hx := B.exec
  have hb := B.bytes
  have hr := B.returns
  have hts := atoms_spec (ws := wsX7_makeGhost) B.pre
  have hown : s.vm.findClass RX7 = some m.cls := findClass_of_methodNamed B.named
  have hlocks := B.notSynchronized
  have hP : va_P D vwCl [(a0, .inr (7, [.ref r0, .ref r1, .ref r2, .ref r3, .ref r4, .ref r5, .ref r6, .ref r7, .int (nI k), .int tl])), (r0, .inl (cI, 30, .inl (ro 0))), (r4, .inl (cI, 30, .inl (ro 4)))] s.heap := hP
  have hl := lv_entry ([.ref a0, .int (nI i), .int (nI j), .int (nI e2)]) (n := 5) (Nat.le_of_ble_eq_true rfl)
  rw [lg_entry_eq]
  generalize (lg_sl ([.ref a0, .int (nI i), .int (nI j), .int (nI e2)]) ++ List.replicate (5 - (lg_sl ([.ref a0, .int (nI i), .int (nI j), .int (nI e2)])).length) Slot.unset).toArray = ls at hl ⊢
  have hl : lv_has ls 5 [(0, .ref a0), (1, .int (nI i)), (2, .int (nI j)), (3, .int (nI e2))] := hl
  refine lv_iconst (v := 2) hx hb dX7_makeGhost_0 (by decide) ?_
  refine lv_aload_n hx hb dX7_makeGhost_1 rfl (lv_at hl 0 rfl) ?_
  refine va_get (D := D) (ci := 7) (v := .ref r0) (C := RX7) (T := TX7) (N := 10) hx hb hts (by decide +kernel) hown hK hP 0 rfl rfl 0 (by decide) (hts (.fieldLink RX7 9 "FiberTrace$Reading" "begins" "[I") (by decide +kernel)) (fun _ h9 => h9) rfl dX7_makeGhost_2 ?_
  refine lv_iload_n hx hb dX7_makeGhost_5 rfl (lv_at hl 2 rfl) ?_
  refine ft_csi (r := ftAt 30 (ro 0) (nI j)) (va_runSN (As := [.ref r0, .int (nI j)]) (rest := [.int 2]) ⟨hx, hb, hml, hown, hts⟩ (c_X10_at l D cI cS r0 30 (ro 0) (nI j) (by first | assumption | omega)) ⟨va_cnB 2 hts gX7_makeGhost_X10_at_n40 rfl rfl rfl (hKK.2 _ (List.mem_of_getElem? (i := 22) rfl)) (hts (.initialized RX10) (by decide +kernel)) (by decide +kernel) ⟨Nat.le_of_ble_eq_true rfl, Nat.le_of_ble_eq_true rfl⟩, hts (.static yX10_at) (by decide +kernel), trivial⟩ (ft_preRO hP hKK [1] rfl) rfl rfl hl.1 rfl (lv_room (Nat.le_of_ble_eq_true rfl)) dX7_makeGhost_6 ⟨Nat.le_of_ble_eq_true rfl, Nat.le_of_ble_eq_true rfl⟩) ?_
  refine ft_top (y := (ro 0) j) (ftAt_N (by omega) (by omega)) ?_
  refine lv_imul hx hb dX7_makeGhost_9 ?_
  refine lv_aload_n hx hb dX7_makeGhost_10 rfl (lv_at hl 0 rfl) ?_
  refine va_get (D := D) (ci := 7) (v := .ref r0) (C := RX7) (T := TX7) (N := 10) hx hb hts (by decide +kernel) hown hK hP 0 rfl rfl 0 (by decide) (hts (.fieldLink RX7 9 "FiberTrace$Reading" "begins" "[I") (by decide +kernel)) (fun _ h9 => h9) rfl dX7_makeGhost_11 ?_
  refine lv_iload_n hx hb dX7_makeGhost_14 rfl (lv_at hl 1 rfl) ?_
  refine ft_csi (r := ftAt 30 (ro 0) (nI i)) (va_runSN (As := [.ref r0, .int (nI i)]) (rest := [.int (2 * ((ro 0) j))]) ⟨hx, hb, hml, hown, hts⟩ (c_X10_at l D cI cS r0 30 (ro 0) (nI i) (by first | assumption | omega)) ⟨va_cnB 2 hts gX7_makeGhost_X10_at_n40 rfl rfl rfl (hKK.2 _ (List.mem_of_getElem? (i := 22) rfl)) (hts (.initialized RX10) (by decide +kernel)) (by decide +kernel) ⟨Nat.le_of_ble_eq_true rfl, Nat.le_of_ble_eq_true rfl⟩, hts (.static yX10_at) (by decide +kernel), trivial⟩ (ft_preRO hP hKK [1] rfl) rfl rfl hl.1 rfl (lv_room (Nat.le_of_ble_eq_true rfl)) dX7_makeGhost_15 ⟨Nat.le_of_ble_eq_true rfl, Nat.le_of_ble_eq_true rfl⟩) ?_
  refine ft_top (y := (ro 0) i) (ftAt_N (by omega) (by omega)) ?_
  refine lv_isub hx hb dX7_makeGhost_18 ?_
  refine lv_istore (lv' := [(4, .int ((2 * ((ro 0) j)) - ((ro 0) i))), (0, .ref a0), (1, .int (nI i)), (2, .int (nI j)), (3, .int (nI e2))]) hx hb dX7_makeGhost_19 hl (by decide) rfl (fun ls hl => ?_)
  refine lv_aload_n hx hb dX7_makeGhost_21 rfl (lv_at hl 1 rfl) ?_
  refine va_get (D := D) (ci := 7) (v := .ref r4) (C := RX7) (T := TX7) (N := 10) hx hb hts (by decide +kernel) hown hK hP 0 rfl rfl 4 (by decide) (hts (.fieldLink RX7 24 "FiberTrace$Reading" "kinds" "[I") (by decide +kernel)) (fun _ h9 => h9) rfl dX7_makeGhost_22 ?_
  refine lv_iload_n hx hb dX7_makeGhost_25 rfl (lv_at hl 2 rfl) ?_
  refine ft_csi (r := ftAt 30 (ro 4) (nI i)) (va_runSN (As := [.ref r4, .int (nI i)]) (rest := []) ⟨hx, hb, hml, hown, hts⟩ (c_X10_at l D cI cS r4 30 (ro 4) (nI i) (by first | assumption | omega)) ⟨va_cnB 2 hts gX7_makeGhost_X10_at_n40 rfl rfl rfl (hKK.2 _ (List.mem_of_getElem? (i := 22) rfl)) (hts (.initialized RX10) (by decide +kernel)) (by decide +kernel) ⟨Nat.le_of_ble_eq_true rfl, Nat.le_of_ble_eq_true rfl⟩, hts (.static yX10_at) (by decide +kernel), trivial⟩ (ft_preRO hP hKK [2] rfl) rfl rfl hl.1 rfl (lv_room (Nat.le_of_ble_eq_true rfl)) dX7_makeGhost_26 ⟨Nat.le_of_ble_eq_true rfl, Nat.le_of_ble_eq_true rfl⟩) ?_
  refine ft_top (y := (ro 4) i) (ftAt_N (by omega) (by omega)) ?_
  refine lv_iconst (v := 1) hx hb dX7_makeGhost_29 (by decide) ?_
  refine lv_icmp_ne (tgt := 70) hx hb dX7_makeGhost_30 (by decide) (fun c30 => ?_) (fun c30 => ?_)
  · refine lv_iconst (v := 0) hx hb dX7_makeGhost_70 (by decide) ?_
    exact W.zret (v := 0) hx hb hr (by rfl) (fun t ht hW => ⟨0, rfl, (by show (0 : Int32) = ftB (ftMk ro tl i j e2); first | exact (ftB_t ⟨c30, c42, Int32.not_lt.mp c63⟩).symm | exact (ftB_f (fun q => absurd q.2.2 (Int32.not_le.mpr c63))).symm | exact (ftB_f (fun q => c42 q.2.1)).symm | exact (ftB_f (fun q => c30 q.1)).symm), ht⟩) (fun _ h9 => absurd h9 List.not_mem_nil) dX7_makeGhost_71
  · refine lv_aload_n hx hb dX7_makeGhost_33 rfl (lv_at hl 1 rfl) ?_
    refine va_get (D := D) (ci := 7) (v := .ref r4) (C := RX7) (T := TX7) (N := 10) hx hb hts (by decide +kernel) hown hK hP 0 rfl rfl 4 (by decide) (hts (.fieldLink RX7 24 "FiberTrace$Reading" "kinds" "[I") (by decide +kernel)) (fun _ h9 => h9) rfl dX7_makeGhost_34 ?_
    refine lv_iload_n hx hb dX7_makeGhost_37 rfl (lv_at hl 3 rfl) ?_
    refine ft_csi (r := ftAt 30 (ro 4) (nI j)) (va_runSN (As := [.ref r4, .int (nI j)]) (rest := []) ⟨hx, hb, hml, hown, hts⟩ (c_X10_at l D cI cS r4 30 (ro 4) (nI j) (by first | assumption | omega)) ⟨va_cnB 2 hts gX7_makeGhost_X10_at_n40 rfl rfl rfl (hKK.2 _ (List.mem_of_getElem? (i := 22) rfl)) (hts (.initialized RX10) (by decide +kernel)) (by decide +kernel) ⟨Nat.le_of_ble_eq_true rfl, Nat.le_of_ble_eq_true rfl⟩, hts (.static yX10_at) (by decide +kernel), trivial⟩ (ft_preRO hP hKK [2] rfl) rfl rfl hl.1 rfl (lv_room (Nat.le_of_ble_eq_true rfl)) dX7_makeGhost_38 ⟨Nat.le_of_ble_eq_true rfl, Nat.le_of_ble_eq_true rfl⟩) ?_
    refine ft_top (y := (ro 4) j) (ftAt_N (by omega) (by omega)) ?_
    refine lv_iconst (v := 1) hx hb dX7_makeGhost_41 (by decide) ?_
    refine lv_icmp_ne (tgt := 70) hx hb dX7_makeGhost_42 (by decide) (fun c42 => ?_) (fun c42 => ?_)
    · refine lv_iconst (v := 0) hx hb dX7_makeGhost_70 (by decide) ?_
      exact W.zret (v := 0) hx hb hr (by rfl) (fun t ht hW => ⟨0, rfl, (by show (0 : Int32) = ftB (ftMk ro tl i j e2); first | exact (ftB_t ⟨c30, c42, Int32.not_lt.mp c63⟩).symm | exact (ftB_f (fun q => absurd q.2.2 (Int32.not_le.mpr c63))).symm | exact (ftB_f (fun q => c42 q.2.1)).symm | exact (ftB_f (fun q => c30 q.1)).symm), ht⟩) (fun _ h9 => absurd h9 List.not_mem_nil) dX7_makeGhost_71
    · refine lv_iload hx hb dX7_makeGhost_45 (lv_at hl 0 rfl) ?_
      refine lv_aload_n hx hb dX7_makeGhost_47 rfl (lv_at hl 1 rfl) ?_
      refine va_get (D := D) (ci := 7) (v := .ref r0) (C := RX7) (T := TX7) (N := 10) hx hb hts (by decide +kernel) hown hK hP 0 rfl rfl 0 (by decide) (hts (.fieldLink RX7 9 "FiberTrace$Reading" "begins" "[I") (by decide +kernel)) (fun _ h9 => h9) rfl dX7_makeGhost_48 ?_
      refine lv_iload_n hx hb dX7_makeGhost_51 rfl (lv_at hl 4 rfl) ?_
      refine ft_csi (r := ftAt 30 (ro 0) (nI e2)) (va_runSN (As := [.ref r0, .int (nI e2)]) (rest := [.int ((2 * ((ro 0) j)) - ((ro 0) i))]) ⟨hx, hb, hml, hown, hts⟩ (c_X10_at l D cI cS r0 30 (ro 0) (nI e2) (by first | assumption | omega)) ⟨va_cnB 2 hts gX7_makeGhost_X10_at_n40 rfl rfl rfl (hKK.2 _ (List.mem_of_getElem? (i := 22) rfl)) (hts (.initialized RX10) (by decide +kernel)) (by decide +kernel) ⟨Nat.le_of_ble_eq_true rfl, Nat.le_of_ble_eq_true rfl⟩, hts (.static yX10_at) (by decide +kernel), trivial⟩ (ft_preRO hP hKK [1] rfl) rfl rfl hl.1 rfl (lv_room (Nat.le_of_ble_eq_true rfl)) dX7_makeGhost_52 ⟨Nat.le_of_ble_eq_true rfl, Nat.le_of_ble_eq_true rfl⟩) ?_
      refine ft_top (y := (ro 0) e2) (ftAt_N (by omega) (by omega)) ?_
      refine lv_isub hx hb dX7_makeGhost_55 ?_
      refine va_mabs hx hb (hml.trans hl.1.symm) hown (hts (.methodLink RX7 65 Lib.Math.abs.name) (by decide +kernel)) (hts (.static Lib.Math.abs.name) (by decide +kernel)) (hts (.initialized "java/lang/Math") (by decide +kernel)) (hts (.code Lib.Math.abs.name Lib.Math.abs.code 1 (some .int)) (by decide +kernel)) (Nat.le_of_ble_eq_true rfl) (Nat.le_of_ble_eq_true rfl) (Nat.le_of_ble_eq_true rfl) (Nat.le_of_ble_eq_true rfl) dX7_makeGhost_56 ?_
      refine ft_top (y := ftAbs (((2 * ((ro 0) j)) - ((ro 0) i)) - ((ro 0) e2))) rfl ?_
      refine lv_aload_n hx hb dX7_makeGhost_59 rfl (lv_at hl 1 rfl) ?_
      refine va_get (D := D) (ci := 7) (v := .int tl) (C := RX7) (T := TX7) (N := 10) hx hb hts (by decide +kernel) hown hK hP 0 rfl rfl 9 (by decide) (hts (.fieldLink RX7 44 "FiberTrace$Reading" "tolerance" "I") (by decide +kernel)) (fun _ h9 => h9) rfl dX7_makeGhost_60 ?_
      refine lv_icmp_gt (tgt := 70) hx hb dX7_makeGhost_63 (by decide) (fun c63 => ?_) (fun c63 => ?_)
      · refine lv_iconst (v := 0) hx hb dX7_makeGhost_70 (by decide) ?_
        exact W.zret (v := 0) hx hb hr (by rfl) (fun t ht hW => ⟨0, rfl, (by show (0 : Int32) = ftB (ftMk ro tl i j e2); first | exact (ftB_t ⟨c30, c42, Int32.not_lt.mp c63⟩).symm | exact (ftB_f (fun q => absurd q.2.2 (Int32.not_le.mpr c63))).symm | exact (ftB_f (fun q => c42 q.2.1)).symm | exact (ftB_f (fun q => c30 q.1)).symm), ht⟩) (fun _ h9 => absurd h9 List.not_mem_nil) dX7_makeGhost_71
      · refine lv_iconst (v := 1) hx hb dX7_makeGhost_66 (by decide) ?_
        refine lv_goto (tgt := 71) hx hb dX7_makeGhost_67 (by decide) ?_
        exact W.zret (v := 1) hx hb hr (by rfl) (fun t ht hW => ⟨1, rfl, (by show (1 : Int32) = ftB (ftMk ro tl i j e2); first | exact (ftB_t ⟨c30, c42, Int32.not_lt.mp c63⟩).symm | exact (ftB_f (fun q => absurd q.2.2 (Int32.not_le.mpr c63))).symm | exact (ftB_f (fun q => c42 q.2.1)).symm | exact (ftB_f (fun q => c30 q.1)).symm), ht⟩) (fun _ h9 => absurd h9 List.not_mem_nil) dX7_makeGhost_71
set_option maxHeartbeats 4000000 in
set_option maxRecDepth 100000 in
theorem c_X7_isNear (l : Launch) (D : va_G) (cI cS : ClassId) (a0 r0 r1 r2 r3 r4 r5 r6 r7 k : Nat) (tl : Int32) (x y : Int32)  : Met l yX7_isNear wsX7_isNear ({ frames := 1, cells := 0, slots := 0, locals := 30 }) (ftRO D cI cS [.ref a0, .int x, .int y] [(a0, .inr (7, [.ref r0, .ref r1, .ref r2, .ref r3, .ref r4, .ref r5, .ref r6, .ref r7, .int (nI k), .int tl]))]) (vp_Si (fun o9 => o9 = ftB (ftNear tl x y))) 0 0 (fun _ => False) := by
  refine Met.ofW (cc := cX7_isNear) (maxL := 3) (ret := (some .boolean)) (by decide) rfl ?_
  intro p e s m args below meth c s₁ B hml hv
  obtain ⟨rfl, hP, hKK⟩ := hv
  have hK := hKK.1
  have hx := B.exec
  have hb := B.bytes
  have hr := B.returns
  have hts := atoms_spec (ws := wsX7_isNear) B.pre
  have hown : s.vm.findClass RX7 = some m.cls := findClass_of_methodNamed B.named
  have hlocks := B.notSynchronized
  have hP : va_P D vwCl [(a0, .inr (7, [.ref r0, .ref r1, .ref r2, .ref r3, .ref r4, .ref r5, .ref r6, .ref r7, .int (nI k), .int tl]))] s.heap := hP
  have hl := lv_entry ([.ref a0, .int x, .int y]) (n := 3) (Nat.le_of_ble_eq_true rfl)
  rw [lg_entry_eq]
  generalize (lg_sl ([.ref a0, .int x, .int y]) ++ List.replicate (3 - (lg_sl ([.ref a0, .int x, .int y])).length) Slot.unset).toArray = ls at hl ⊢
  have hl : lv_has ls 3 [(0, .ref a0), (1, .int x), (2, .int y)] := hl
  refine lv_iload_n hx hb dX7_isNear_0 rfl (lv_at hl 1 rfl) ?_
  refine lv_iload_n hx hb dX7_isNear_1 rfl (lv_at hl 2 rfl) ?_
  refine lv_isub hx hb dX7_isNear_2 ?_
  refine va_mabs hx hb (hml.trans hl.1.symm) hown (hts (.methodLink RX7 65 Lib.Math.abs.name) (by decide +kernel)) (hts (.static Lib.Math.abs.name) (by decide +kernel)) (hts (.initialized "java/lang/Math") (by decide +kernel)) (hts (.code Lib.Math.abs.name Lib.Math.abs.code 1 (some .int)) (by decide +kernel)) (Nat.le_of_ble_eq_true rfl) (Nat.le_of_ble_eq_true rfl) (Nat.le_of_ble_eq_true rfl) (Nat.le_of_ble_eq_true rfl) dX7_isNear_3 ?_
  refine ft_top (y := ftAbs (x - y)) rfl ?_
  refine lv_aload_n hx hb dX7_isNear_6 rfl (lv_at hl 0 rfl) ?_
  refine va_get (D := D) (ci := 7) (v := .int tl) (C := RX7) (T := TX7) (N := 10) hx hb hts (by decide +kernel) hown hK hP 0 rfl rfl 9 (by decide) (hts (.fieldLink RX7 44 "FiberTrace$Reading" "tolerance" "I") (by decide +kernel)) (fun _ h9 => h9) rfl dX7_isNear_7 ?_
  refine lv_icmp_gt (tgt := 17) hx hb dX7_isNear_10 (by decide) (fun c10 => ?_) (fun c10 => ?_)
  · refine lv_iconst (v := 0) hx hb dX7_isNear_17 (by decide) ?_
    exact W.zret (v := 0) hx hb hr (by rfl) (fun t ht hW => ⟨0, rfl, (by show (0 : Int32) = ftB (ftNear tl x y); first | exact (ftB_t (Int32.not_lt.mp c10)).symm | exact (ftB_f (fun q => absurd q (Int32.not_le.mpr c10))).symm), ht⟩) (fun _ h9 => absurd h9 List.not_mem_nil) dX7_isNear_18
  · refine lv_iconst (v := 1) hx hb dX7_isNear_13 (by decide) ?_
    refine lv_goto (tgt := 18) hx hb dX7_isNear_14 (by decide) ?_
    exact W.zret (v := 1) hx hb hr (by rfl) (fun t ht hW => ⟨1, rfl, (by show (1 : Int32) = ftB (ftNear tl x y); first | exact (ftB_t (Int32.not_lt.mp c10)).symm | exact (ftB_f (fun q => absurd q (Int32.not_le.mpr c10))).symm), ht⟩) (fun _ h9 => absurd h9 List.not_mem_nil) dX7_isNear_18
set_option maxHeartbeats 4000000 in
set_option maxRecDepth 100000 in
theorem c_X7_findMakers (l : Launch) (D : va_G) (cI cS : ClassId) (sz : Nat) (a0 r0 r1 r2 r3 r4 r5 r6 r7 k : Nat) (tl : Int32) (ro : Nat → Nat → Int32) (e2 : Nat) (he : e2 < 30) : Met l yX7_findMakers wsX7_findMakers ({ frames := 2, cells := 0, slots := 0, locals := 54 }) (ftRW D cI cS [.ref a0, .int (nI e2)] [(a0, .inr (7, [.ref r0, .ref r1, .ref r2, .ref r3, .ref r4, .ref r5, .ref r6, .ref r7, .int (nI k), .int tl])), (r0, .inl (cI, 30, .inl (ro 0))), (r1, .inl (cI, 30, .inl (ro 1))), (r2, .inl (cI, 30, .inl (ro 2))), (r3, .inl (cI, 30, .inl (ro 3))), (r4, .inl (cI, 30, .inl (ro 4))), (r5, .inl (cI, 30, .inl (ro 5))), (r6, .inl (cI, 30, .inl (ro 6))), (r7, .inl (cI, 30, .inl (ro 7)))] sz) (ftQv D [(a0, .inr (7, [.ref r0, .ref r1, .ref r2, .ref r3, .ref r4, .ref r5, .ref r6, .ref r7, .int (nI k), .int tl])), (r0, .inl (cI, 30, .inl (ro 0))), (r1, .inl (cI, 30, .inl (ro 1))), (r2, .inl (cI, 30, .inl (ro 2))), (r3, .inl (cI, 30, .inl (ro 3))), (r4, .inl (cI, 30, .inl (ro 4))), (r5, .inl (cI, 30, .inl (ro 5))), (r6, .inl (cI, 30, .inl (ro 6))), (r7, .inl (cI, 30, .inl (ro 7)))] [(a0, .inr (7, [.ref r0, .ref r1, .ref r2, .ref r3, .ref r4, .ref r5, .ref r6, .ref r7, .int (nI k), .int tl])), (r0, .inl (cI, 30, .inl (ftMkRow ro tl e2 0))), (r1, .inl (cI, 30, .inl (ftMkRow ro tl e2 1))), (r2, .inl (cI, 30, .inl (ftMkRow ro tl e2 2))), (r3, .inl (cI, 30, .inl (ftMkRow ro tl e2 3))), (r4, .inl (cI, 30, .inl (ftMkRow ro tl e2 4))), (r5, .inl (cI, 30, .inl (ftMkRow ro tl e2 5))), (r6, .inl (cI, 30, .inl (ftMkRow ro tl e2 6))), (r7, .inl (cI, 30, .inl (ftMkRow ro tl e2 7)))] sz) 0 0 (va_A [(a0, .inr (7, [.ref r0, .ref r1, .ref r2, .ref r3, .ref r4, .ref r5, .ref r6, .ref r7, .int (nI k), .int tl])), (r0, .inl (cI, 30, .inl (ro 0))), (r1, .inl (cI, 30, .inl (ro 1))), (r2, .inl (cI, 30, .inl (ro 2))), (r3, .inl (cI, 30, .inl (ro 3))), (r4, .inl (cI, 30, .inl (ro 4))), (r5, .inl (cI, 30, .inl (ro 5))), (r6, .inl (cI, 30, .inl (ro 6))), (r7, .inl (cI, 30, .inl (ro 7)))] sz) := by
  refine Met.ofW (cc := cX7_findMakers) (maxL := 4) (ret := none) (by decide) rfl ?_
  intro p e s m args below meth c s₁ B hml hv
  obtain ⟨rfl, hsz, hP, hKK, hD0⟩ := hv
  have hK := hKK.1
  have hx := B.exec
  have hb := B.bytes
  have hr := B.returns
  have hts := atoms_spec (ws := wsX7_findMakers) B.pre
  have hown : s.vm.findClass RX7 = some m.cls := findClass_of_methodNamed B.named
  have hlocks := B.notSynchronized
  subst hsz
  have hD := hD0.self (sz := s.heap.size)
  generalize hAe : va_A [(a0, .inr (7, [.ref r0, .ref r1, .ref r2, .ref r3, .ref r4, .ref r5, .ref r6, .ref r7, .int (nI k), .int tl])), (r0, .inl (cI, 30, .inl (ro 0))), (r1, .inl (cI, 30, .inl (ro 1))), (r2, .inl (cI, 30, .inl (ro 2))), (r3, .inl (cI, 30, .inl (ro 3))), (r4, .inl (cI, 30, .inl (ro 4))), (r5, .inl (cI, 30, .inl (ro 5))), (r6, .inl (cI, 30, .inl (ro 6))), (r7, .inl (cI, 30, .inl (ro 7)))] s.heap.size = A at hD ⊢
  have hA : ∀ q : Nat, s.heap.size ≤ q → A q := fun q h => by rw [← hAe]; exact Or.inr h
  have hS : va_S A s.heap s.heap [] := va_S.rf
  have hD : va_D A [(a0, .inr (7, [.ref r0, .ref r1, .ref r2, .ref r3, .ref r4, .ref r5, .ref r6, .ref r7, .int (nI k), .int tl])), (r0, .inl (cI, 30, .inl (ro 0))), (r1, .inl (cI, 30, .inl (ro 1))), (r2, .inl (cI, 30, .inl (ro 2))), (r3, .inl (cI, 30, .inl (ro 3))), (r4, .inl (cI, 30, .inl (ro 4))), (r5, .inl (cI, 30, .inl (ro 5))), (r6, .inl (cI, 30, .inl (ro 6))), (r7, .inl (cI, 30, .inl (ro 7)))] := hD
  have hP : va_P D vwCl [(a0, .inr (7, [.ref r0, .ref r1, .ref r2, .ref r3, .ref r4, .ref r5, .ref r6, .ref r7, .int (nI k), .int tl])), (r0, .inl (cI, 30, .inl (ro 0))), (r1, .inl (cI, 30, .inl (ro 1))), (r2, .inl (cI, 30, .inl (ro 2))), (r3, .inl (cI, 30, .inl (ro 3))), (r4, .inl (cI, 30, .inl (ro 4))), (r5, .inl (cI, 30, .inl (ro 5))), (r6, .inl (cI, 30, .inl (ro 6))), (r7, .inl (cI, 30, .inl (ro 7)))] s.heap := hP
  have hl := lv_entry ([.ref a0, .int (nI e2)]) (n := 4) (Nat.le_of_ble_eq_true rfl)
  rw [lg_entry_eq]
  generalize (lg_sl ([.ref a0, .int (nI e2)]) ++ List.replicate (4 - (lg_sl ([.ref a0, .int (nI e2)])).length) Slot.unset).toArray = ls at hl ⊢
  have hl : lv_has ls 4 [(0, .ref a0), (1, .int (nI e2))] := hl
  refine lv_iconst (v := 0) hx hb dX7_findMakers_0 (by decide) ?_
  refine lv_istore_n (lv' := [(2, .int 0), (0, .ref a0), (1, .int (nI e2))]) hx hb dX7_findMakers_1 rfl hl (by decide) rfl (fun ls hl => ?_)
  have lp2 : ∀ (n2 : Nat) (i : Nat) (x2_2 : Int32), e2 - i < n2 → (i ≤ e2) → (ftMkOut ro tl e2 e2 = ftMkOut ro tl e2 (e2 - i)) → x2_2 = nI i → ∀ (H : Heap) (locs : List Loc), va_P D vwCl [(a0, .inr (7, [.ref r0, .ref r1, .ref r2, .ref r3, .ref r4, .ref r5, .ref r6, .ref r7, .int (nI k), .int tl])), (r0, .inl (cI, 30, .inl (ro 0))), (r1, .inl (cI, 30, .inl (ro 1))), (r2, .inl (cI, 30, .inl (ro 2))), (r3, .inl (cI, 30, .inl (ro 3))), (r4, .inl (cI, 30, .inl (ro 4))), (r5, .inl (cI, 30, .inl (ro 5))), (r6, .inl (cI, 30, .inl (ro 6))), (r7, .inl (cI, 30, .inl (ro 7)))] H → va_D A [(a0, .inr (7, [.ref r0, .ref r1, .ref r2, .ref r3, .ref r4, .ref r5, .ref r6, .ref r7, .int (nI k), .int tl])), (r0, .inl (cI, 30, .inl (ro 0))), (r1, .inl (cI, 30, .inl (ro 1))), (r2, .inl (cI, 30, .inl (ro 2))), (r3, .inl (cI, 30, .inl (ro 3))), (r4, .inl (cI, 30, .inl (ro 4))), (r5, .inl (cI, 30, .inl (ro 5))), (r6, .inl (cI, 30, .inl (ro 6))), (r7, .inl (cI, 30, .inl (ro 7)))] → va_S A s.heap H locs → ∀ ls : Array Slot, lv_has ls 4 [(0, .ref a0), (1, .int (nI e2)), (2, .int x2_2)] → W p l e (headSpec wsX7_findMakers { frames := 2, cells := 0, slots := 0, locals := 54 }).room s m ([.ref a0, .int (nI e2)] : List Value).toArray below meth c H locs 0 0 (MQ below (ftQv D [(a0, .inr (7, [.ref r0, .ref r1, .ref r2, .ref r3, .ref r4, .ref r5, .ref r6, .ref r7, .int (nI k), .int tl])), (r0, .inl (cI, 30, .inl (ro 0))), (r1, .inl (cI, 30, .inl (ro 1))), (r2, .inl (cI, 30, .inl (ro 2))), (r3, .inl (cI, 30, .inl (ro 3))), (r4, .inl (cI, 30, .inl (ro 4))), (r5, .inl (cI, 30, .inl (ro 5))), (r6, .inl (cI, 30, .inl (ro 6))), (r7, .inl (cI, 30, .inl (ro 7)))] [(a0, .inr (7, [.ref r0, .ref r1, .ref r2, .ref r3, .ref r4, .ref r5, .ref r6, .ref r7, .int (nI k), .int tl])), (r0, .inl (cI, 30, .inl (ftMkRow ro tl e2 0))), (r1, .inl (cI, 30, .inl (ftMkRow ro tl e2 1))), (r2, .inl (cI, 30, .inl (ftMkRow ro tl e2 2))), (r3, .inl (cI, 30, .inl (ftMkRow ro tl e2 3))), (r4, .inl (cI, 30, .inl (ftMkRow ro tl e2 4))), (r5, .inl (cI, 30, .inl (ftMkRow ro tl e2 5))), (r6, .inl (cI, 30, .inl (ftMkRow ro tl e2 6))), (r7, .inl (cI, 30, .inl (ftMkRow ro tl e2 7)))] s.heap.size) ([.ref a0, .int (nI e2)] : List Value).toArray s 0 0 A) (F0 m 2 ls []) := by
    intro n2
    induction n2 with
    | zero =>
      intro i x2_2  hm2
      exact absurd hm2 (Nat.not_lt_zero _)
    | succ n2 ih2 =>
      intro i x2_2  hm2 hie ho ex2_2  H locs hP hD hS ls hl
      subst ex2_2
      refine lv_iload_n hx hb dX7_findMakers_2 rfl (lv_at hl 2 rfl) ?_
      refine lv_iload_n hx hb dX7_findMakers_3 rfl (lv_at hl 1 rfl) ?_
      refine lv_icmp_ge (tgt := 66) hx hb dX7_findMakers_4 (by decide) (fun c4 => ?_) (fun c4 => ?_)
      · have c4n : e2 ≤ i := ft_leN (by omega) (by omega) c4
        have hw9 : ([(a0, .inr (7, [.ref r0, .ref r1, .ref r2, .ref r3, .ref r4, .ref r5, .ref r6, .ref r7, .int (nI k), .int tl])), (r0, .inl (cI, 30, .inl (ro 0))), (r1, .inl (cI, 30, .inl (ro 1))), (r2, .inl (cI, 30, .inl (ro 2))), (r3, .inl (cI, 30, .inl (ro 3))), (r4, .inl (cI, 30, .inl (ro 4))), (r5, .inl (cI, 30, .inl (ro 5))), (r6, .inl (cI, 30, .inl (ro 6))), (r7, .inl (cI, 30, .inl (ro 7)))] : va_W) = [(a0, .inr (7, [.ref r0, .ref r1, .ref r2, .ref r3, .ref r4, .ref r5, .ref r6, .ref r7, .int (nI k), .int tl])), (r0, .inl (cI, 30, .inl (ftMkRow ro tl e2 0))), (r1, .inl (cI, 30, .inl (ftMkRow ro tl e2 1))), (r2, .inl (cI, 30, .inl (ftMkRow ro tl e2 2))), (r3, .inl (cI, 30, .inl (ftMkRow ro tl e2 3))), (r4, .inl (cI, 30, .inl (ftMkRow ro tl e2 4))), (r5, .inl (cI, 30, .inl (ftMkRow ro tl e2 5))), (r6, .inl (cI, 30, .inl (ftMkRow ro tl e2 6))), (r7, .inl (cI, 30, .inl (ftMkRow ro tl e2 7)))] := by rw [ftMkRow_none (ho.trans (ftMkOut_end (by omega)))]
        rw [hw9] at hP hD
        exact W.vret hx hb hr (fun t ht hW => ⟨⟨(), rfl, trivial, by rw [ht]; exact hP, by rw [hAe]; exact hD⟩, by rw [hAe]; exact hS.F ht⟩) hS.2.2 dX7_findMakers_66
      · have c4n : i < e2 := ft_nleN (by omega) (by omega) c4
        refine lv_iload_n hx hb dX7_findMakers_7 rfl (lv_at hl 2 rfl) ?_
        refine lv_iconst (v := 1) hx hb dX7_findMakers_8 (by decide) ?_
        refine lv_iadd hx hb dX7_findMakers_9 ?_
        refine ft_top (y := nI (i + 1)) (ft_addN i 1) ?_
        refine lv_istore_n (lv' := [(3, .int (nI (i + 1))), (0, .ref a0), (1, .int (nI e2)), (2, .int (nI i))]) hx hb dX7_findMakers_10 rfl hl (by decide) rfl (fun ls hl => ?_)
        have lp11 : ∀ (n11 : Nat) (j : Nat) (x11_3 : Int32), e2 - j < n11 → (i + 1 ≤ j) → (j ≤ e2) → (ftMkIn ro tl i e2 (e2 - (i + 1)) = ftMkIn ro tl i e2 (e2 - j)) → x11_3 = nI j → ∀ (H : Heap) (locs : List Loc), va_P D vwCl [(a0, .inr (7, [.ref r0, .ref r1, .ref r2, .ref r3, .ref r4, .ref r5, .ref r6, .ref r7, .int (nI k), .int tl])), (r0, .inl (cI, 30, .inl (ro 0))), (r1, .inl (cI, 30, .inl (ro 1))), (r2, .inl (cI, 30, .inl (ro 2))), (r3, .inl (cI, 30, .inl (ro 3))), (r4, .inl (cI, 30, .inl (ro 4))), (r5, .inl (cI, 30, .inl (ro 5))), (r6, .inl (cI, 30, .inl (ro 6))), (r7, .inl (cI, 30, .inl (ro 7)))] H → va_D A [(a0, .inr (7, [.ref r0, .ref r1, .ref r2, .ref r3, .ref r4, .ref r5, .ref r6, .ref r7, .int (nI k), .int tl])), (r0, .inl (cI, 30, .inl (ro 0))), (r1, .inl (cI, 30, .inl (ro 1))), (r2, .inl (cI, 30, .inl (ro 2))), (r3, .inl (cI, 30, .inl (ro 3))), (r4, .inl (cI, 30, .inl (ro 4))), (r5, .inl (cI, 30, .inl (ro 5))), (r6, .inl (cI, 30, .inl (ro 6))), (r7, .inl (cI, 30, .inl (ro 7)))] → va_S A s.heap H locs → ∀ ls : Array Slot, lv_has ls 4 [(0, .ref a0), (1, .int (nI e2)), (2, .int (nI i)), (3, .int x11_3)] → W p l e (headSpec wsX7_findMakers { frames := 2, cells := 0, slots := 0, locals := 54 }).room s m ([.ref a0, .int (nI e2)] : List Value).toArray below meth c H locs 0 0 (MQ below (ftQv D [(a0, .inr (7, [.ref r0, .ref r1, .ref r2, .ref r3, .ref r4, .ref r5, .ref r6, .ref r7, .int (nI k), .int tl])), (r0, .inl (cI, 30, .inl (ro 0))), (r1, .inl (cI, 30, .inl (ro 1))), (r2, .inl (cI, 30, .inl (ro 2))), (r3, .inl (cI, 30, .inl (ro 3))), (r4, .inl (cI, 30, .inl (ro 4))), (r5, .inl (cI, 30, .inl (ro 5))), (r6, .inl (cI, 30, .inl (ro 6))), (r7, .inl (cI, 30, .inl (ro 7)))] [(a0, .inr (7, [.ref r0, .ref r1, .ref r2, .ref r3, .ref r4, .ref r5, .ref r6, .ref r7, .int (nI k), .int tl])), (r0, .inl (cI, 30, .inl (ftMkRow ro tl e2 0))), (r1, .inl (cI, 30, .inl (ftMkRow ro tl e2 1))), (r2, .inl (cI, 30, .inl (ftMkRow ro tl e2 2))), (r3, .inl (cI, 30, .inl (ftMkRow ro tl e2 3))), (r4, .inl (cI, 30, .inl (ftMkRow ro tl e2 4))), (r5, .inl (cI, 30, .inl (ftMkRow ro tl e2 5))), (r6, .inl (cI, 30, .inl (ftMkRow ro tl e2 6))), (r7, .inl (cI, 30, .inl (ftMkRow ro tl e2 7)))] s.heap.size) ([.ref a0, .int (nI e2)] : List Value).toArray s 0 0 A) (F0 m 11 ls []) := by
          intro n11
          induction n11 with
          | zero =>
            intro j x11_3  hm11
            exact absurd hm11 (Nat.not_lt_zero _)
          | succ n11 ih11 =>
            intro j x11_3  hm11 hij hje hin ex11_3  H locs hP hD hS ls hl
            subst ex11_3
            refine lv_iload_n hx hb dX7_findMakers_11 rfl (lv_at hl 3 rfl) ?_
            refine lv_iload_n hx hb dX7_findMakers_12 rfl (lv_at hl 1 rfl) ?_
            refine lv_icmp_ge (tgt := 60) hx hb dX7_findMakers_13 (by decide) (fun c13 => ?_) (fun c13 => ?_)
            · have c13n : e2 ≤ j := ft_leN (by omega) (by omega) c13
              refine lv_iinc (v := nI (i + 1)) (lv' := [(2, .int (nI (i + 1))), (0, .ref a0), (1, .int (nI e2)), (3, .int (nI j))]) hx hb dX7_findMakers_60 hl (k := 2) rfl (ft_inc i) (by decide) rfl (fun ls hl => ?_)
              refine lv_goto (tgt := 2) hx hb dX7_findMakers_63 (by decide) ?_
              exact ih2 (i + 1) (nI (i + 1))  (by omega) (by omega) (by rw [ho]; exact ftMkOut_go (by omega) (hin.trans (ftMkIn_end (by omega)))) (by first | rfl | assumption)  _ _ hP hD hS ls (lv_sub hl [1, 2, 0] rfl)
            · have c13n : j < e2 := ft_nleN (by omega) (by omega) c13
              refine lv_aload_n hx hb dX7_findMakers_16 rfl (lv_at hl 0 rfl) ?_
              refine lv_iload_n hx hb dX7_findMakers_17 rfl (lv_at hl 2 rfl) ?_
              refine lv_iload_n hx hb dX7_findMakers_18 rfl (lv_at hl 3 rfl) ?_
              refine lv_iload_n hx hb dX7_findMakers_19 rfl (lv_at hl 1 rfl) ?_
              refine ft_csi (r := ftB (ftMk ro tl i j e2)) (va_runV (C := RX7) (As := [.int (nI i), .int (nI j), .int (nI e2)]) (rest := []) ⟨hx, hb, hml, hown, hts⟩ (c_X7_makeGhost l D cI cS a0 r0 r1 r2 r3 r4 r5 r6 r7 k tl ro i j e2 (by first | assumption | omega) (by first | assumption | omega) (by first | assumption | omega)) (cwV 3 hts gX7_findMakers_X7_makeGhost rfl rfl rfl (by decide +kernel) ⟨Nat.le_of_ble_eq_true rfl, Nat.le_of_ble_eq_true rfl⟩) (ft_preROV (ci := 7) (q0 := 0) hP hKK [0, 1, 5] rfl rfl rfl) rfl rfl hl.1 rfl (lv_room (Nat.le_of_ble_eq_true rfl)) dX7_findMakers_20 ⟨Nat.le_of_ble_eq_true rfl, Nat.le_of_ble_eq_true rfl⟩) ?_
              refine lv_if_eq (tgt := 54) hx hb dX7_findMakers_23 (by decide) (fun c23 => ?_) (fun c23 => ?_)
              · replace c23 := ftB_eq c23
                refine lv_iinc (v := nI (j + 1)) (lv' := [(3, .int (nI (j + 1))), (0, .ref a0), (1, .int (nI e2)), (2, .int (nI i))]) hx hb dX7_findMakers_54 hl (k := 3) rfl (ft_inc j) (by decide) rfl (fun ls hl => ?_)
                refine lv_goto (tgt := 11) hx hb dX7_findMakers_57 (by decide) ?_
                exact ih11 (j + 1) (nI (j + 1))  (by omega) (by omega) (by omega) (by rw [hin]; exact ftMkIn_go (by omega) c23) (by first | rfl | assumption)  _ _ hP hD hS ls (lv_sub hl [1, 2, 3, 0] rfl)
              · replace c23 := ftB_ne c23
                refine lv_aload_n hx hb dX7_findMakers_26 rfl (lv_at hl 0 rfl) ?_
                refine va_get (D := D) (ci := 7) (v := .ref r4) (C := RX7) (T := TX7) (N := 10) hx hb hts (by decide +kernel) hown hK hP 0 rfl rfl 4 (by decide) (hts (.fieldLink RX7 24 "FiberTrace$Reading" "kinds" "[I") (by decide +kernel)) (fun _ h9 => h9) rfl dX7_findMakers_27 ?_
                refine lv_iload_n hx hb dX7_findMakers_30 rfl (lv_at hl 1 rfl) ?_
                refine lv_iconst (v := 2) hx hb dX7_findMakers_31 (by decide) ?_
                refine ft_cv (wc := [(r4, .inl (cI, 30, .inl (ro 4)))]) (wr := [(a0, .inr (7, [.ref r0, .ref r1, .ref r2, .ref r3, .ref r4, .ref r5, .ref r6, .ref r7, .int (nI k), .int tl])), (r0, .inl (cI, 30, .inl (ro 0))), (r1, .inl (cI, 30, .inl (ro 1))), (r2, .inl (cI, 30, .inl (ro 2))), (r3, .inl (cI, 30, .inl (ro 3))), (r5, .inl (cI, 30, .inl (ro 5))), (r6, .inl (cI, 30, .inl (ro 6))), (r7, .inl (cI, 30, .inl (ro 7)))]) (w1 := [(r4, .inl (cI, 30, .inl (ftPut 30 (ro 4) (nI e2) 2)))]) (ws1 := [(a0, .inr (7, [.ref r0, .ref r1, .ref r2, .ref r3, .ref r4, .ref r5, .ref r6, .ref r7, .int (nI k), .int tl])), (r0, .inl (cI, 30, .inl (ro 0))), (r1, .inl (cI, 30, .inl (ro 1))), (r2, .inl (cI, 30, .inl (ro 2))), (r3, .inl (cI, 30, .inl (ro 3))), (r4, .inl (cI, 30, .inl (ftPut 30 (ro 4) (nI e2) 2))), (r5, .inl (cI, 30, .inl (ro 5))), (r6, .inl (cI, 30, .inl (ro 6))), (r7, .inl (cI, 30, .inl (ro 7)))]) (va_runSN (As := [.ref r4, .int (nI e2), .int 2]) (rest := []) ⟨hx, hb, hml, hown, hts⟩ (c_X10_put l D cI cS H.size r4 30 (ro 4) (nI e2) 2 (by first | assumption | omega)) ⟨va_cnB 3 hts gX7_findMakers_X10_put_n55 rfl rfl rfl (hKK.2 _ (List.mem_of_getElem? (i := 23) rfl)) (hts (.initialized RX10) (by decide +kernel)) (by decide +kernel) ⟨Nat.le_of_ble_eq_true rfl, Nat.le_of_ble_eq_true rfl⟩, hts (.static yX10_put) (by decide +kernel), trivial⟩ (ft_preRW hP hD hKK [5] rfl rfl rfl) rfl rfl hl.1 rfl (lv_room (Nat.le_of_ble_eq_true rfl)) dX7_findMakers_32 ⟨Nat.le_of_ble_eq_true rfl, Nat.le_of_ble_eq_true rfl⟩) hP hD hS hA [5] [0, 1, 2, 3, 4, 6, 7, 8] [0, 1, 2, 3, 4, 8, 5, 6, 7] rfl rfl (by decide) (by decide) (by decide) rfl rfl (fun H locs hP hD hS => ?_)
                rw [ftPut_N (k := e2) (by omega) (by omega)] at hP hD
                have hP : va_P D vwCl [(a0, .inr (7, [.ref r0, .ref r1, .ref r2, .ref r3, .ref r4, .ref r5, .ref r6, .ref r7, .int (nI k), .int tl])), (r0, .inl (cI, 30, .inl (ro 0))), (r1, .inl (cI, 30, .inl (ro 1))), (r2, .inl (cI, 30, .inl (ro 2))), (r3, .inl (cI, 30, .inl (ro 3))), (r4, .inl (cI, 30, .inl (upd (ro 4) e2 2))), (r5, .inl (cI, 30, .inl (ro 5))), (r6, .inl (cI, 30, .inl (ro 6))), (r7, .inl (cI, 30, .inl (ro 7)))] H := hP
                have hD : va_D A [(a0, .inr (7, [.ref r0, .ref r1, .ref r2, .ref r3, .ref r4, .ref r5, .ref r6, .ref r7, .int (nI k), .int tl])), (r0, .inl (cI, 30, .inl (ro 0))), (r1, .inl (cI, 30, .inl (ro 1))), (r2, .inl (cI, 30, .inl (ro 2))), (r3, .inl (cI, 30, .inl (ro 3))), (r4, .inl (cI, 30, .inl (upd (ro 4) e2 2))), (r5, .inl (cI, 30, .inl (ro 5))), (r6, .inl (cI, 30, .inl (ro 6))), (r7, .inl (cI, 30, .inl (ro 7)))] := hD
                refine lv_aload_n hx hb dX7_findMakers_35 rfl (lv_at hl 0 rfl) ?_
                refine va_get (D := D) (ci := 7) (v := .ref r6) (C := RX7) (T := TX7) (N := 10) hx hb hts (by decide +kernel) hown hK hP 0 rfl rfl 6 (by decide) (hts (.fieldLink RX7 30 "FiberTrace$Reading" "firstMakers" "[I") (by decide +kernel)) (fun _ h9 => h9) rfl dX7_findMakers_36 ?_
                refine lv_iload_n hx hb dX7_findMakers_39 rfl (lv_at hl 1 rfl) ?_
                refine lv_iload_n hx hb dX7_findMakers_40 rfl (lv_at hl 2 rfl) ?_
                refine ft_cv (wc := [(r6, .inl (cI, 30, .inl (ro 6)))]) (wr := [(a0, .inr (7, [.ref r0, .ref r1, .ref r2, .ref r3, .ref r4, .ref r5, .ref r6, .ref r7, .int (nI k), .int tl])), (r0, .inl (cI, 30, .inl (ro 0))), (r1, .inl (cI, 30, .inl (ro 1))), (r2, .inl (cI, 30, .inl (ro 2))), (r3, .inl (cI, 30, .inl (ro 3))), (r4, .inl (cI, 30, .inl (upd (ro 4) e2 2))), (r5, .inl (cI, 30, .inl (ro 5))), (r7, .inl (cI, 30, .inl (ro 7)))]) (w1 := [(r6, .inl (cI, 30, .inl (ftPut 30 (ro 6) (nI e2) (nI i))))]) (ws1 := [(a0, .inr (7, [.ref r0, .ref r1, .ref r2, .ref r3, .ref r4, .ref r5, .ref r6, .ref r7, .int (nI k), .int tl])), (r0, .inl (cI, 30, .inl (ro 0))), (r1, .inl (cI, 30, .inl (ro 1))), (r2, .inl (cI, 30, .inl (ro 2))), (r3, .inl (cI, 30, .inl (ro 3))), (r4, .inl (cI, 30, .inl (upd (ro 4) e2 2))), (r5, .inl (cI, 30, .inl (ro 5))), (r6, .inl (cI, 30, .inl (ftPut 30 (ro 6) (nI e2) (nI i)))), (r7, .inl (cI, 30, .inl (ro 7)))]) (va_runSN (As := [.ref r6, .int (nI e2), .int (nI i)]) (rest := []) ⟨hx, hb, hml, hown, hts⟩ (c_X10_put l D cI cS H.size r6 30 (ro 6) (nI e2) (nI i) (by first | assumption | omega)) ⟨va_cnB 3 hts gX7_findMakers_X10_put_n55 rfl rfl rfl (hKK.2 _ (List.mem_of_getElem? (i := 23) rfl)) (hts (.initialized RX10) (by decide +kernel)) (by decide +kernel) ⟨Nat.le_of_ble_eq_true rfl, Nat.le_of_ble_eq_true rfl⟩, hts (.static yX10_put) (by decide +kernel), trivial⟩ (ft_preRW hP hD hKK [7] rfl rfl rfl) rfl rfl hl.1 rfl (lv_room (Nat.le_of_ble_eq_true rfl)) dX7_findMakers_41 ⟨Nat.le_of_ble_eq_true rfl, Nat.le_of_ble_eq_true rfl⟩) hP hD hS hA [7] [0, 1, 2, 3, 4, 5, 6, 8] [0, 1, 2, 3, 4, 5, 6, 8, 7] rfl rfl (by decide) (by decide) (by decide) rfl rfl (fun H locs hP hD hS => ?_)
                rw [ftPut_N (k := e2) (by omega) (by omega)] at hP hD
                have hP : va_P D vwCl [(a0, .inr (7, [.ref r0, .ref r1, .ref r2, .ref r3, .ref r4, .ref r5, .ref r6, .ref r7, .int (nI k), .int tl])), (r0, .inl (cI, 30, .inl (ro 0))), (r1, .inl (cI, 30, .inl (ro 1))), (r2, .inl (cI, 30, .inl (ro 2))), (r3, .inl (cI, 30, .inl (ro 3))), (r4, .inl (cI, 30, .inl (upd (ro 4) e2 2))), (r5, .inl (cI, 30, .inl (ro 5))), (r6, .inl (cI, 30, .inl (upd (ro 6) e2 (nI i)))), (r7, .inl (cI, 30, .inl (ro 7)))] H := hP
                have hD : va_D A [(a0, .inr (7, [.ref r0, .ref r1, .ref r2, .ref r3, .ref r4, .ref r5, .ref r6, .ref r7, .int (nI k), .int tl])), (r0, .inl (cI, 30, .inl (ro 0))), (r1, .inl (cI, 30, .inl (ro 1))), (r2, .inl (cI, 30, .inl (ro 2))), (r3, .inl (cI, 30, .inl (ro 3))), (r4, .inl (cI, 30, .inl (upd (ro 4) e2 2))), (r5, .inl (cI, 30, .inl (ro 5))), (r6, .inl (cI, 30, .inl (upd (ro 6) e2 (nI i)))), (r7, .inl (cI, 30, .inl (ro 7)))] := hD
                refine lv_aload_n hx hb dX7_findMakers_44 rfl (lv_at hl 0 rfl) ?_
                refine va_get (D := D) (ci := 7) (v := .ref r7) (C := RX7) (T := TX7) (N := 10) hx hb hts (by decide +kernel) hown hK hP 0 rfl rfl 7 (by decide) (hts (.fieldLink RX7 33 "FiberTrace$Reading" "secondMakers" "[I") (by decide +kernel)) (fun _ h9 => h9) rfl dX7_findMakers_45 ?_
                refine lv_iload_n hx hb dX7_findMakers_48 rfl (lv_at hl 1 rfl) ?_
                refine lv_iload_n hx hb dX7_findMakers_49 rfl (lv_at hl 3 rfl) ?_
                refine ft_cv (wc := [(r7, .inl (cI, 30, .inl (ro 7)))]) (wr := [(a0, .inr (7, [.ref r0, .ref r1, .ref r2, .ref r3, .ref r4, .ref r5, .ref r6, .ref r7, .int (nI k), .int tl])), (r0, .inl (cI, 30, .inl (ro 0))), (r1, .inl (cI, 30, .inl (ro 1))), (r2, .inl (cI, 30, .inl (ro 2))), (r3, .inl (cI, 30, .inl (ro 3))), (r4, .inl (cI, 30, .inl (upd (ro 4) e2 2))), (r5, .inl (cI, 30, .inl (ro 5))), (r6, .inl (cI, 30, .inl (upd (ro 6) e2 (nI i))))]) (w1 := [(r7, .inl (cI, 30, .inl (ftPut 30 (ro 7) (nI e2) (nI j))))]) (ws1 := [(a0, .inr (7, [.ref r0, .ref r1, .ref r2, .ref r3, .ref r4, .ref r5, .ref r6, .ref r7, .int (nI k), .int tl])), (r0, .inl (cI, 30, .inl (ro 0))), (r1, .inl (cI, 30, .inl (ro 1))), (r2, .inl (cI, 30, .inl (ro 2))), (r3, .inl (cI, 30, .inl (ro 3))), (r4, .inl (cI, 30, .inl (upd (ro 4) e2 2))), (r5, .inl (cI, 30, .inl (ro 5))), (r6, .inl (cI, 30, .inl (upd (ro 6) e2 (nI i)))), (r7, .inl (cI, 30, .inl (ftPut 30 (ro 7) (nI e2) (nI j))))]) (va_runSN (As := [.ref r7, .int (nI e2), .int (nI j)]) (rest := []) ⟨hx, hb, hml, hown, hts⟩ (c_X10_put l D cI cS H.size r7 30 (ro 7) (nI e2) (nI j) (by first | assumption | omega)) ⟨va_cnB 3 hts gX7_findMakers_X10_put_n55 rfl rfl rfl (hKK.2 _ (List.mem_of_getElem? (i := 23) rfl)) (hts (.initialized RX10) (by decide +kernel)) (by decide +kernel) ⟨Nat.le_of_ble_eq_true rfl, Nat.le_of_ble_eq_true rfl⟩, hts (.static yX10_put) (by decide +kernel), trivial⟩ (ft_preRW hP hD hKK [8] rfl rfl rfl) rfl rfl hl.1 rfl (lv_room (Nat.le_of_ble_eq_true rfl)) dX7_findMakers_50 ⟨Nat.le_of_ble_eq_true rfl, Nat.le_of_ble_eq_true rfl⟩) hP hD hS hA [8] [0, 1, 2, 3, 4, 5, 6, 7] [0, 1, 2, 3, 4, 5, 6, 7, 8] rfl rfl (by decide) (by decide) (by decide) rfl rfl (fun H locs hP hD hS => ?_)
                rw [ftPut_N (k := e2) (by omega) (by omega)] at hP hD
                have hP : va_P D vwCl [(a0, .inr (7, [.ref r0, .ref r1, .ref r2, .ref r3, .ref r4, .ref r5, .ref r6, .ref r7, .int (nI k), .int tl])), (r0, .inl (cI, 30, .inl (ro 0))), (r1, .inl (cI, 30, .inl (ro 1))), (r2, .inl (cI, 30, .inl (ro 2))), (r3, .inl (cI, 30, .inl (ro 3))), (r4, .inl (cI, 30, .inl (upd (ro 4) e2 2))), (r5, .inl (cI, 30, .inl (ro 5))), (r6, .inl (cI, 30, .inl (upd (ro 6) e2 (nI i)))), (r7, .inl (cI, 30, .inl (upd (ro 7) e2 (nI j))))] H := hP
                have hD : va_D A [(a0, .inr (7, [.ref r0, .ref r1, .ref r2, .ref r3, .ref r4, .ref r5, .ref r6, .ref r7, .int (nI k), .int tl])), (r0, .inl (cI, 30, .inl (ro 0))), (r1, .inl (cI, 30, .inl (ro 1))), (r2, .inl (cI, 30, .inl (ro 2))), (r3, .inl (cI, 30, .inl (ro 3))), (r4, .inl (cI, 30, .inl (upd (ro 4) e2 2))), (r5, .inl (cI, 30, .inl (ro 5))), (r6, .inl (cI, 30, .inl (upd (ro 6) e2 (nI i)))), (r7, .inl (cI, 30, .inl (upd (ro 7) e2 (nI j))))] := hD
                have hw9 : ([(a0, .inr (7, [.ref r0, .ref r1, .ref r2, .ref r3, .ref r4, .ref r5, .ref r6, .ref r7, .int (nI k), .int tl])), (r0, .inl (cI, 30, .inl (ro 0))), (r1, .inl (cI, 30, .inl (ro 1))), (r2, .inl (cI, 30, .inl (ro 2))), (r3, .inl (cI, 30, .inl (ro 3))), (r4, .inl (cI, 30, .inl (upd (ro 4) e2 2))), (r5, .inl (cI, 30, .inl (ro 5))), (r6, .inl (cI, 30, .inl (upd (ro 6) e2 (nI i)))), (r7, .inl (cI, 30, .inl (upd (ro 7) e2 (nI j))))] : va_W) = [(a0, .inr (7, [.ref r0, .ref r1, .ref r2, .ref r3, .ref r4, .ref r5, .ref r6, .ref r7, .int (nI k), .int tl])), (r0, .inl (cI, 30, .inl (ftMkRow ro tl e2 0))), (r1, .inl (cI, 30, .inl (ftMkRow ro tl e2 1))), (r2, .inl (cI, 30, .inl (ftMkRow ro tl e2 2))), (r3, .inl (cI, 30, .inl (ftMkRow ro tl e2 3))), (r4, .inl (cI, 30, .inl (ftMkRow ro tl e2 4))), (r5, .inl (cI, 30, .inl (ftMkRow ro tl e2 5))), (r6, .inl (cI, 30, .inl (ftMkRow ro tl e2 6))), (r7, .inl (cI, 30, .inl (ftMkRow ro tl e2 7)))] := by rw [ftMkRow_some (ho.trans (ftMkOut_hit (by omega) (hin.trans (ftMkIn_hit (by omega) c23))))]; rfl
                rw [hw9] at hP hD
                exact W.vret hx hb hr (fun t ht hW => ⟨⟨(), rfl, trivial, by rw [ht]; exact hP, by rw [hAe]; exact hD⟩, by rw [hAe]; exact hS.F ht⟩) hS.2.2 dX7_findMakers_53
        exact lp11 _ (i + 1) (nI (i + 1))  (Nat.lt_succ_self _) (by omega) (by omega) (by rfl) (by rfl) _ _ hP hD hS ls (lv_sub hl [1, 2, 3, 0] rfl)
  exact lp2 _ 0 0  (Nat.lt_succ_self _) (by omega) (by rfl) (by rfl) _ _ hP hD hS ls (lv_sub hl [1, 2, 0] rfl)
set_option maxHeartbeats 4000000 in
set_option maxRecDepth 100000 in
theorem c_X7_findGhosts (l : Launch) (D : va_G) (cI cS : ClassId) (sz : Nat) (a0 r0 r1 r2 r3 r4 r5 r6 r7 k : Nat) (tl : Int32) (ro : Nat → Nat → Int32) (gl : Int32) (hk : k ≤ 30) : Met l yX7_findGhosts wsX7_findGhosts ({ frames := 3, cells := 0, slots := 0, locals := 77 }) (ftRW D cI cS [.ref a0, .int gl] [(a0, .inr (7, [.ref r0, .ref r1, .ref r2, .ref r3, .ref r4, .ref r5, .ref r6, .ref r7, .int (nI k), .int tl])), (r0, .inl (cI, 30, .inl (ro 0))), (r1, .inl (cI, 30, .inl (ro 1))), (r2, .inl (cI, 30, .inl (ro 2))), (r3, .inl (cI, 30, .inl (ro 3))), (r4, .inl (cI, 30, .inl (ro 4))), (r5, .inl (cI, 30, .inl (ro 5))), (r6, .inl (cI, 30, .inl (ro 6))), (r7, .inl (cI, 30, .inl (ro 7)))] sz) (ftQv D [(a0, .inr (7, [.ref r0, .ref r1, .ref r2, .ref r3, .ref r4, .ref r5, .ref r6, .ref r7, .int (nI k), .int tl])), (r0, .inl (cI, 30, .inl (ro 0))), (r1, .inl (cI, 30, .inl (ro 1))), (r2, .inl (cI, 30, .inl (ro 2))), (r3, .inl (cI, 30, .inl (ro 3))), (r4, .inl (cI, 30, .inl (ro 4))), (r5, .inl (cI, 30, .inl (ro 5))), (r6, .inl (cI, 30, .inl (ro 6))), (r7, .inl (cI, 30, .inl (ro 7)))] [(a0, .inr (7, [.ref r0, .ref r1, .ref r2, .ref r3, .ref r4, .ref r5, .ref r6, .ref r7, .int (nI k), .int tl])), (r0, .inl (cI, 30, .inl (ftGhosts ro tl gl k 0))), (r1, .inl (cI, 30, .inl (ftGhosts ro tl gl k 1))), (r2, .inl (cI, 30, .inl (ftGhosts ro tl gl k 2))), (r3, .inl (cI, 30, .inl (ftGhosts ro tl gl k 3))), (r4, .inl (cI, 30, .inl (ftGhosts ro tl gl k 4))), (r5, .inl (cI, 30, .inl (ftGhosts ro tl gl k 5))), (r6, .inl (cI, 30, .inl (ftGhosts ro tl gl k 6))), (r7, .inl (cI, 30, .inl (ftGhosts ro tl gl k 7)))] sz) 0 0 (va_A [(a0, .inr (7, [.ref r0, .ref r1, .ref r2, .ref r3, .ref r4, .ref r5, .ref r6, .ref r7, .int (nI k), .int tl])), (r0, .inl (cI, 30, .inl (ro 0))), (r1, .inl (cI, 30, .inl (ro 1))), (r2, .inl (cI, 30, .inl (ro 2))), (r3, .inl (cI, 30, .inl (ro 3))), (r4, .inl (cI, 30, .inl (ro 4))), (r5, .inl (cI, 30, .inl (ro 5))), (r6, .inl (cI, 30, .inl (ro 6))), (r7, .inl (cI, 30, .inl (ro 7)))] sz) := by
  refine Met.ofW (cc := cX7_findGhosts) (maxL := 3) (ret := none) (by decide) rfl ?_
  intro p e s m args below meth c s₁ B hml hv
  obtain ⟨rfl, hsz, hP, hKK, hD0⟩ := hv
  have hK := hKK.1
  have hx := B.exec
  have hb := B.bytes
  have hr := B.returns
  have hts := atoms_spec (ws := wsX7_findGhosts) B.pre
  have hown : s.vm.findClass RX7 = some m.cls := findClass_of_methodNamed B.named
  have hlocks := B.notSynchronized
  subst hsz
  have hD := hD0.self (sz := s.heap.size)
  generalize hAe : va_A [(a0, .inr (7, [.ref r0, .ref r1, .ref r2, .ref r3, .ref r4, .ref r5, .ref r6, .ref r7, .int (nI k), .int tl])), (r0, .inl (cI, 30, .inl (ro 0))), (r1, .inl (cI, 30, .inl (ro 1))), (r2, .inl (cI, 30, .inl (ro 2))), (r3, .inl (cI, 30, .inl (ro 3))), (r4, .inl (cI, 30, .inl (ro 4))), (r5, .inl (cI, 30, .inl (ro 5))), (r6, .inl (cI, 30, .inl (ro 6))), (r7, .inl (cI, 30, .inl (ro 7)))] s.heap.size = A at hD ⊢
  have hA : ∀ q : Nat, s.heap.size ≤ q → A q := fun q h => by rw [← hAe]; exact Or.inr h
  have hS : va_S A s.heap s.heap [] := va_S.rf
  have hD : va_D A [(a0, .inr (7, [.ref r0, .ref r1, .ref r2, .ref r3, .ref r4, .ref r5, .ref r6, .ref r7, .int (nI k), .int tl])), (r0, .inl (cI, 30, .inl (ro 0))), (r1, .inl (cI, 30, .inl (ro 1))), (r2, .inl (cI, 30, .inl (ro 2))), (r3, .inl (cI, 30, .inl (ro 3))), (r4, .inl (cI, 30, .inl (ro 4))), (r5, .inl (cI, 30, .inl (ro 5))), (r6, .inl (cI, 30, .inl (ro 6))), (r7, .inl (cI, 30, .inl (ro 7)))] := hD
  have hP : va_P D vwCl [(a0, .inr (7, [.ref r0, .ref r1, .ref r2, .ref r3, .ref r4, .ref r5, .ref r6, .ref r7, .int (nI k), .int tl])), (r0, .inl (cI, 30, .inl (ro 0))), (r1, .inl (cI, 30, .inl (ro 1))), (r2, .inl (cI, 30, .inl (ro 2))), (r3, .inl (cI, 30, .inl (ro 3))), (r4, .inl (cI, 30, .inl (ro 4))), (r5, .inl (cI, 30, .inl (ro 5))), (r6, .inl (cI, 30, .inl (ro 6))), (r7, .inl (cI, 30, .inl (ro 7)))] s.heap := hP
  have hl := lv_entry ([.ref a0, .int gl]) (n := 3) (Nat.le_of_ble_eq_true rfl)
  rw [lg_entry_eq]
  generalize (lg_sl ([.ref a0, .int gl]) ++ List.replicate (3 - (lg_sl ([.ref a0, .int gl])).length) Slot.unset).toArray = ls at hl ⊢
  have hl : lv_has ls 3 [(0, .ref a0), (1, .int gl)] := hl
  refine lv_iconst (v := 0) hx hb dX7_findGhosts_0 (by decide) ?_
  refine lv_istore_n (lv' := [(2, .int 0), (0, .ref a0), (1, .int gl)]) hx hb dX7_findGhosts_1 rfl hl (by decide) rfl (fun ls hl => ?_)
  have lp2 : ∀ (n2 : Nat) (i : Nat) (rg : Nat → Nat → Int32) (x2_2 : Int32) (g2_r0 : Nat → Int32) (g2_r1 : Nat → Int32) (g2_r2 : Nat → Int32) (g2_r3 : Nat → Int32) (g2_r4 : Nat → Int32) (g2_r5 : Nat → Int32) (g2_r6 : Nat → Int32) (g2_r7 : Nat → Int32), k - i < n2 → (i ≤ k) → (rg = ftGhosts ro tl gl i) → x2_2 = nI i → g2_r0 = rg 0 → g2_r1 = rg 1 → g2_r2 = rg 2 → g2_r3 = rg 3 → g2_r4 = rg 4 → g2_r5 = rg 5 → g2_r6 = rg 6 → g2_r7 = rg 7 → ∀ (H : Heap) (locs : List Loc), va_P D vwCl [(a0, .inr (7, [.ref r0, .ref r1, .ref r2, .ref r3, .ref r4, .ref r5, .ref r6, .ref r7, .int (nI k), .int tl])), (r0, .inl (cI, 30, .inl g2_r0)), (r1, .inl (cI, 30, .inl g2_r1)), (r2, .inl (cI, 30, .inl g2_r2)), (r3, .inl (cI, 30, .inl g2_r3)), (r4, .inl (cI, 30, .inl g2_r4)), (r5, .inl (cI, 30, .inl g2_r5)), (r6, .inl (cI, 30, .inl g2_r6)), (r7, .inl (cI, 30, .inl g2_r7))] H → va_D A [(a0, .inr (7, [.ref r0, .ref r1, .ref r2, .ref r3, .ref r4, .ref r5, .ref r6, .ref r7, .int (nI k), .int tl])), (r0, .inl (cI, 30, .inl g2_r0)), (r1, .inl (cI, 30, .inl g2_r1)), (r2, .inl (cI, 30, .inl g2_r2)), (r3, .inl (cI, 30, .inl g2_r3)), (r4, .inl (cI, 30, .inl g2_r4)), (r5, .inl (cI, 30, .inl g2_r5)), (r6, .inl (cI, 30, .inl g2_r6)), (r7, .inl (cI, 30, .inl g2_r7))] → va_S A s.heap H locs → ∀ ls : Array Slot, lv_has ls 3 [(0, .ref a0), (1, .int gl), (2, .int x2_2)] → W p l e (headSpec wsX7_findGhosts { frames := 3, cells := 0, slots := 0, locals := 77 }).room s m ([.ref a0, .int gl] : List Value).toArray below meth c H locs 0 0 (MQ below (ftQv D [(a0, .inr (7, [.ref r0, .ref r1, .ref r2, .ref r3, .ref r4, .ref r5, .ref r6, .ref r7, .int (nI k), .int tl])), (r0, .inl (cI, 30, .inl (ro 0))), (r1, .inl (cI, 30, .inl (ro 1))), (r2, .inl (cI, 30, .inl (ro 2))), (r3, .inl (cI, 30, .inl (ro 3))), (r4, .inl (cI, 30, .inl (ro 4))), (r5, .inl (cI, 30, .inl (ro 5))), (r6, .inl (cI, 30, .inl (ro 6))), (r7, .inl (cI, 30, .inl (ro 7)))] [(a0, .inr (7, [.ref r0, .ref r1, .ref r2, .ref r3, .ref r4, .ref r5, .ref r6, .ref r7, .int (nI k), .int tl])), (r0, .inl (cI, 30, .inl (ftGhosts ro tl gl k 0))), (r1, .inl (cI, 30, .inl (ftGhosts ro tl gl k 1))), (r2, .inl (cI, 30, .inl (ftGhosts ro tl gl k 2))), (r3, .inl (cI, 30, .inl (ftGhosts ro tl gl k 3))), (r4, .inl (cI, 30, .inl (ftGhosts ro tl gl k 4))), (r5, .inl (cI, 30, .inl (ftGhosts ro tl gl k 5))), (r6, .inl (cI, 30, .inl (ftGhosts ro tl gl k 6))), (r7, .inl (cI, 30, .inl (ftGhosts ro tl gl k 7)))] s.heap.size) ([.ref a0, .int gl] : List Value).toArray s 0 0 A) (F0 m 2 ls []) := by
    intro n2
    induction n2 with
    | zero =>
      intro i rg x2_2 g2_r0 g2_r1 g2_r2 g2_r3 g2_r4 g2_r5 g2_r6 g2_r7 hm2
      exact absurd hm2 (Nat.not_lt_zero _)
    | succ n2 ih2 =>
      intro i rg x2_2 g2_r0 g2_r1 g2_r2 g2_r3 g2_r4 g2_r5 g2_r6 g2_r7 hm2 hik hg ex2_2 eg2_r0 eg2_r1 eg2_r2 eg2_r3 eg2_r4 eg2_r5 eg2_r6 eg2_r7 H locs hP hD hS ls hl
      subst ex2_2
      subst eg2_r0
      subst eg2_r1
      subst eg2_r2
      subst eg2_r3
      subst eg2_r4
      subst eg2_r5
      subst eg2_r6
      subst eg2_r7
      refine lv_iload_n hx hb dX7_findGhosts_2 rfl (lv_at hl 2 rfl) ?_
      refine lv_aload_n hx hb dX7_findGhosts_3 rfl (lv_at hl 0 rfl) ?_
      refine va_get (D := D) (ci := 7) (v := .int (nI k)) (C := RX7) (T := TX7) (N := 10) hx hb hts (by decide +kernel) hown hK hP 0 rfl rfl 8 (by decide) (hts (.fieldLink RX7 36 "FiberTrace$Reading" "size" "I") (by decide +kernel)) (fun _ h9 => h9) rfl dX7_findGhosts_4 ?_
      refine lv_icmp_ge (tgt := 48) hx hb dX7_findGhosts_7 (by decide) (fun c7 => ?_) (fun c7 => ?_)
      · have c7n : k ≤ i := ft_leN (by omega) (by omega) c7
        have hw9 : ([(a0, .inr (7, [.ref r0, .ref r1, .ref r2, .ref r3, .ref r4, .ref r5, .ref r6, .ref r7, .int (nI k), .int tl])), (r0, .inl (cI, 30, .inl (rg 0))), (r1, .inl (cI, 30, .inl (rg 1))), (r2, .inl (cI, 30, .inl (rg 2))), (r3, .inl (cI, 30, .inl (rg 3))), (r4, .inl (cI, 30, .inl (rg 4))), (r5, .inl (cI, 30, .inl (rg 5))), (r6, .inl (cI, 30, .inl (rg 6))), (r7, .inl (cI, 30, .inl (rg 7)))] : va_W) = [(a0, .inr (7, [.ref r0, .ref r1, .ref r2, .ref r3, .ref r4, .ref r5, .ref r6, .ref r7, .int (nI k), .int tl])), (r0, .inl (cI, 30, .inl (ftGhosts ro tl gl k 0))), (r1, .inl (cI, 30, .inl (ftGhosts ro tl gl k 1))), (r2, .inl (cI, 30, .inl (ftGhosts ro tl gl k 2))), (r3, .inl (cI, 30, .inl (ftGhosts ro tl gl k 3))), (r4, .inl (cI, 30, .inl (ftGhosts ro tl gl k 4))), (r5, .inl (cI, 30, .inl (ftGhosts ro tl gl k 5))), (r6, .inl (cI, 30, .inl (ftGhosts ro tl gl k 6))), (r7, .inl (cI, 30, .inl (ftGhosts ro tl gl k 7)))] := by (obtain rfl : i = k := by omega); rw [hg]
        rw [hw9] at hP hD
        exact W.vret hx hb hr (fun t ht hW => ⟨⟨(), rfl, trivial, by rw [ht]; exact hP, by rw [hAe]; exact hD⟩, by rw [hAe]; exact hS.F ht⟩) hS.2.2 dX7_findGhosts_48
      · have c7n : i < k := ft_nleN (by omega) (by omega) c7
        refine lv_aload_n hx hb dX7_findGhosts_10 rfl (lv_at hl 0 rfl) ?_
        refine va_get (D := D) (ci := 7) (v := .ref r4) (C := RX7) (T := TX7) (N := 10) hx hb hts (by decide +kernel) hown hK hP 0 rfl rfl 4 (by decide) (hts (.fieldLink RX7 24 "FiberTrace$Reading" "kinds" "[I") (by decide +kernel)) (fun _ h9 => h9) rfl dX7_findGhosts_11 ?_
        refine lv_iload_n hx hb dX7_findGhosts_14 rfl (lv_at hl 2 rfl) ?_
        refine ft_csi (r := ftAt 30 (rg 4) (nI i)) (va_runSN (As := [.ref r4, .int (nI i)]) (rest := []) ⟨hx, hb, hml, hown, hts⟩ (c_X10_at l D cI cS r4 30 (rg 4) (nI i) (by first | assumption | omega)) ⟨va_cnB 2 hts gX7_findGhosts_X10_at_n40 rfl rfl rfl (hKK.2 _ (List.mem_of_getElem? (i := 22) rfl)) (hts (.initialized RX10) (by decide +kernel)) (by decide +kernel) ⟨Nat.le_of_ble_eq_true rfl, Nat.le_of_ble_eq_true rfl⟩, hts (.static yX10_at) (by decide +kernel), trivial⟩ (ft_preRO hP hKK [5] rfl) rfl rfl hl.1 rfl (lv_room (Nat.le_of_ble_eq_true rfl)) dX7_findGhosts_15 ⟨Nat.le_of_ble_eq_true rfl, Nat.le_of_ble_eq_true rfl⟩) ?_
        refine ft_top (y := (rg 4) i) (ftAt_N (by omega) (by omega)) ?_
        refine lv_iconst (v := 1) hx hb dX7_findGhosts_18 (by decide) ?_
        refine lv_icmp_ne (tgt := 42) hx hb dX7_findGhosts_19 (by decide) (fun c19 => ?_) (fun c19 => ?_)
        · obtain ⟨r9, hr9⟩ : ∃ r9, r9 = rg := ⟨rg, rfl⟩
          refine lv_iinc (v := nI (i + 1)) (lv' := [(2, .int (nI (i + 1))), (0, .ref a0), (1, .int gl)]) hx hb dX7_findGhosts_42 hl (k := 2) rfl (ft_inc i) (by decide) rfl (fun ls hl => ?_)
          refine lv_goto (tgt := 2) hx hb dX7_findGhosts_45 (by decide) ?_
          exact ih2 (i + 1) r9 (nI (i + 1)) (rg 0) (rg 1) (rg 2) (rg 3) (rg 4) (rg 5) (rg 6) (rg 7) (by omega) (by omega) (by first | (rw [hr9]; exact ftGhosts_t hg ⟨c19, Int32.not_lt.mp c34⟩) | (rw [hr9]; exact ftGhosts_f hg (fun q => absurd q.2 (Int32.not_le.mpr c34))) | (rw [hr9]; exact ftGhosts_f hg (fun q => c19 q.1))) (by first | rfl | assumption) (by rw [hr9]) (by rw [hr9]) (by rw [hr9]) (by rw [hr9]) (by rw [hr9]) (by rw [hr9]) (by rw [hr9]) (by rw [hr9]) _ _ hP hD hS ls (lv_sub hl [1, 2, 0] rfl)
        · refine lv_aload_n hx hb dX7_findGhosts_22 rfl (lv_at hl 0 rfl) ?_
          refine va_get (D := D) (ci := 7) (v := .ref r2) (C := RX7) (T := TX7) (N := 10) hx hb hts (by decide +kernel) hown hK hP 0 rfl rfl 2 (by decide) (hts (.fieldLink RX7 18 "FiberTrace$Reading" "losses" "[I") (by decide +kernel)) (fun _ h9 => h9) rfl dX7_findGhosts_23 ?_
          refine lv_iload_n hx hb dX7_findGhosts_26 rfl (lv_at hl 2 rfl) ?_
          refine ft_csi (r := ftAt 30 (rg 2) (nI i)) (va_runSN (As := [.ref r2, .int (nI i)]) (rest := []) ⟨hx, hb, hml, hown, hts⟩ (c_X10_at l D cI cS r2 30 (rg 2) (nI i) (by first | assumption | omega)) ⟨va_cnB 2 hts gX7_findGhosts_X10_at_n40 rfl rfl rfl (hKK.2 _ (List.mem_of_getElem? (i := 22) rfl)) (hts (.initialized RX10) (by decide +kernel)) (by decide +kernel) ⟨Nat.le_of_ble_eq_true rfl, Nat.le_of_ble_eq_true rfl⟩, hts (.static yX10_at) (by decide +kernel), trivial⟩ (ft_preRO hP hKK [3] rfl) rfl rfl hl.1 rfl (lv_room (Nat.le_of_ble_eq_true rfl)) dX7_findGhosts_27 ⟨Nat.le_of_ble_eq_true rfl, Nat.le_of_ble_eq_true rfl⟩) ?_
          refine ft_top (y := (rg 2) i) (ftAt_N (by omega) (by omega)) ?_
          refine va_mabs hx hb (hml.trans hl.1.symm) hown (hts (.methodLink RX7 65 Lib.Math.abs.name) (by decide +kernel)) (hts (.static Lib.Math.abs.name) (by decide +kernel)) (hts (.initialized "java/lang/Math") (by decide +kernel)) (hts (.code Lib.Math.abs.name Lib.Math.abs.code 1 (some .int)) (by decide +kernel)) (Nat.le_of_ble_eq_true rfl) (Nat.le_of_ble_eq_true rfl) (Nat.le_of_ble_eq_true rfl) (Nat.le_of_ble_eq_true rfl) dX7_findGhosts_30 ?_
          refine ft_top (y := ftAbs ((rg 2) i)) rfl ?_
          refine lv_iload_n hx hb dX7_findGhosts_33 rfl (lv_at hl 1 rfl) ?_
          refine lv_icmp_gt (tgt := 42) hx hb dX7_findGhosts_34 (by decide) (fun c34 => ?_) (fun c34 => ?_)
          · obtain ⟨r9, hr9⟩ : ∃ r9, r9 = rg := ⟨rg, rfl⟩
            refine lv_iinc (v := nI (i + 1)) (lv' := [(2, .int (nI (i + 1))), (0, .ref a0), (1, .int gl)]) hx hb dX7_findGhosts_42 hl (k := 2) rfl (ft_inc i) (by decide) rfl (fun ls hl => ?_)
            refine lv_goto (tgt := 2) hx hb dX7_findGhosts_45 (by decide) ?_
            exact ih2 (i + 1) r9 (nI (i + 1)) (rg 0) (rg 1) (rg 2) (rg 3) (rg 4) (rg 5) (rg 6) (rg 7) (by omega) (by omega) (by first | (rw [hr9]; exact ftGhosts_t hg ⟨c19, Int32.not_lt.mp c34⟩) | (rw [hr9]; exact ftGhosts_f hg (fun q => absurd q.2 (Int32.not_le.mpr c34))) | (rw [hr9]; exact ftGhosts_f hg (fun q => c19 q.1))) (by first | rfl | assumption) (by rw [hr9]) (by rw [hr9]) (by rw [hr9]) (by rw [hr9]) (by rw [hr9]) (by rw [hr9]) (by rw [hr9]) (by rw [hr9]) _ _ hP hD hS ls (lv_sub hl [1, 2, 0] rfl)
          · obtain ⟨r9, hr9⟩ : ∃ r9, r9 = ftMkRow rg tl i := ⟨_, rfl⟩
            refine lv_aload_n hx hb dX7_findGhosts_37 rfl (lv_at hl 0 rfl) ?_
            refine lv_iload_n hx hb dX7_findGhosts_38 rfl (lv_at hl 2 rfl) ?_
            refine ft_cv (wc := [(a0, .inr (7, [.ref r0, .ref r1, .ref r2, .ref r3, .ref r4, .ref r5, .ref r6, .ref r7, .int (nI k), .int tl])), (r0, .inl (cI, 30, .inl (rg 0))), (r1, .inl (cI, 30, .inl (rg 1))), (r2, .inl (cI, 30, .inl (rg 2))), (r3, .inl (cI, 30, .inl (rg 3))), (r4, .inl (cI, 30, .inl (rg 4))), (r5, .inl (cI, 30, .inl (rg 5))), (r6, .inl (cI, 30, .inl (rg 6))), (r7, .inl (cI, 30, .inl (rg 7)))]) (wr := []) (w1 := [(a0, .inr (7, [.ref r0, .ref r1, .ref r2, .ref r3, .ref r4, .ref r5, .ref r6, .ref r7, .int (nI k), .int tl])), (r0, .inl (cI, 30, .inl (ftMkRow rg tl i 0))), (r1, .inl (cI, 30, .inl (ftMkRow rg tl i 1))), (r2, .inl (cI, 30, .inl (ftMkRow rg tl i 2))), (r3, .inl (cI, 30, .inl (ftMkRow rg tl i 3))), (r4, .inl (cI, 30, .inl (ftMkRow rg tl i 4))), (r5, .inl (cI, 30, .inl (ftMkRow rg tl i 5))), (r6, .inl (cI, 30, .inl (ftMkRow rg tl i 6))), (r7, .inl (cI, 30, .inl (ftMkRow rg tl i 7)))]) (ws1 := [(a0, .inr (7, [.ref r0, .ref r1, .ref r2, .ref r3, .ref r4, .ref r5, .ref r6, .ref r7, .int (nI k), .int tl])), (r0, .inl (cI, 30, .inl (ftMkRow rg tl i 0))), (r1, .inl (cI, 30, .inl (ftMkRow rg tl i 1))), (r2, .inl (cI, 30, .inl (ftMkRow rg tl i 2))), (r3, .inl (cI, 30, .inl (ftMkRow rg tl i 3))), (r4, .inl (cI, 30, .inl (ftMkRow rg tl i 4))), (r5, .inl (cI, 30, .inl (ftMkRow rg tl i 5))), (r6, .inl (cI, 30, .inl (ftMkRow rg tl i 6))), (r7, .inl (cI, 30, .inl (ftMkRow rg tl i 7)))]) (va_runV (C := RX7) (As := [.int (nI i)]) (rest := []) ⟨hx, hb, hml, hown, hts⟩ (c_X7_findMakers l D cI cS H.size a0 r0 r1 r2 r3 r4 r5 r6 r7 k tl rg i (by first | assumption | omega)) (cwV 1 hts gX7_findGhosts_X7_findMakers rfl rfl rfl (by decide +kernel) ⟨Nat.le_of_ble_eq_true rfl, Nat.le_of_ble_eq_true rfl⟩) (ft_preRWV (ci := 7) (q0 := 0) hP hD hKK [0, 1, 2, 3, 4, 5, 6, 7, 8] rfl rfl rfl rfl rfl) rfl rfl hl.1 rfl (lv_room (Nat.le_of_ble_eq_true rfl)) dX7_findGhosts_39 ⟨Nat.le_of_ble_eq_true rfl, Nat.le_of_ble_eq_true rfl⟩) hP hD hS hA [0, 1, 2, 3, 4, 5, 6, 7, 8] [] [0, 1, 2, 3, 4, 5, 6, 7, 8] rfl rfl (by decide) (by decide) (by decide) rfl rfl (fun H locs hP hD hS => ?_)
            have hP : va_P D vwCl [(a0, .inr (7, [.ref r0, .ref r1, .ref r2, .ref r3, .ref r4, .ref r5, .ref r6, .ref r7, .int (nI k), .int tl])), (r0, .inl (cI, 30, .inl (ftMkRow rg tl i 0))), (r1, .inl (cI, 30, .inl (ftMkRow rg tl i 1))), (r2, .inl (cI, 30, .inl (ftMkRow rg tl i 2))), (r3, .inl (cI, 30, .inl (ftMkRow rg tl i 3))), (r4, .inl (cI, 30, .inl (ftMkRow rg tl i 4))), (r5, .inl (cI, 30, .inl (ftMkRow rg tl i 5))), (r6, .inl (cI, 30, .inl (ftMkRow rg tl i 6))), (r7, .inl (cI, 30, .inl (ftMkRow rg tl i 7)))] H := hP
            have hD : va_D A [(a0, .inr (7, [.ref r0, .ref r1, .ref r2, .ref r3, .ref r4, .ref r5, .ref r6, .ref r7, .int (nI k), .int tl])), (r0, .inl (cI, 30, .inl (ftMkRow rg tl i 0))), (r1, .inl (cI, 30, .inl (ftMkRow rg tl i 1))), (r2, .inl (cI, 30, .inl (ftMkRow rg tl i 2))), (r3, .inl (cI, 30, .inl (ftMkRow rg tl i 3))), (r4, .inl (cI, 30, .inl (ftMkRow rg tl i 4))), (r5, .inl (cI, 30, .inl (ftMkRow rg tl i 5))), (r6, .inl (cI, 30, .inl (ftMkRow rg tl i 6))), (r7, .inl (cI, 30, .inl (ftMkRow rg tl i 7)))] := hD
            refine lv_iinc (v := nI (i + 1)) (lv' := [(2, .int (nI (i + 1))), (0, .ref a0), (1, .int gl)]) hx hb dX7_findGhosts_42 hl (k := 2) rfl (ft_inc i) (by decide) rfl (fun ls hl => ?_)
            refine lv_goto (tgt := 2) hx hb dX7_findGhosts_45 (by decide) ?_
            exact ih2 (i + 1) r9 (nI (i + 1)) (ftMkRow rg tl i 0) (ftMkRow rg tl i 1) (ftMkRow rg tl i 2) (ftMkRow rg tl i 3) (ftMkRow rg tl i 4) (ftMkRow rg tl i 5) (ftMkRow rg tl i 6) (ftMkRow rg tl i 7) (by omega) (by omega) (by first | (rw [hr9]; exact ftGhosts_t hg ⟨c19, Int32.not_lt.mp c34⟩) | (rw [hr9]; exact ftGhosts_f hg (fun q => absurd q.2 (Int32.not_le.mpr c34))) | (rw [hr9]; exact ftGhosts_f hg (fun q => c19 q.1))) (by first | rfl | assumption) (by rw [hr9]) (by rw [hr9]) (by rw [hr9]) (by rw [hr9]) (by rw [hr9]) (by rw [hr9]) (by rw [hr9]) (by rw [hr9]) _ _ hP hD hS ls (lv_sub hl [1, 2, 0] rfl)
  exact lp2 _ 0 ro 0 (ro 0) (ro 1) (ro 2) (ro 3) (ro 4) (ro 5) (ro 6) (ro 7) (Nat.lt_succ_self _) (by omega) (by rfl) (by rfl) (by rfl) (by rfl) (by rfl) (by rfl) (by rfl) (by rfl) (by rfl) (by rfl) _ _ hP hD hS ls (lv_sub hl [1, 2, 0] rfl)
set_option maxHeartbeats 4000000 in
set_option maxRecDepth 100000 in
theorem c_X7_lossOfGhosts (l : Launch) (D : va_G) (cI cS : ClassId) (a0 r0 r1 r2 r3 r4 r5 r6 r7 k : Nat) (tl : Int32) (ro : Nat → Nat → Int32) (hk : k ≤ 30) : Met l yX7_lossOfGhosts wsX7_lossOfGhosts ({ frames := 1, cells := 0, slots := 0, locals := 21 }) (ftRO D cI cS [.ref a0] [(a0, .inr (7, [.ref r0, .ref r1, .ref r2, .ref r3, .ref r4, .ref r5, .ref r6, .ref r7, .int (nI k), .int tl])), (r2, .inl (cI, 30, .inl (ro 2))), (r4, .inl (cI, 30, .inl (ro 4)))]) (vp_Si (fun o9 => o9 = ftLossG ro k)) 0 0 (fun _ => False) := by
  refine Met.ofW (cc := cX7_lossOfGhosts) (maxL := 3) (ret := (some .int)) (by decide) rfl ?_
  intro p e s m args below meth c s₁ B hml hv
  obtain ⟨rfl, hP, hKK⟩ := hv
  have hK := hKK.1
  have hx := B.exec
  have hb := B.bytes
  have hr := B.returns
  have hts := atoms_spec (ws := wsX7_lossOfGhosts) B.pre
  have hown : s.vm.findClass RX7 = some m.cls := findClass_of_methodNamed B.named
  have hlocks := B.notSynchronized
  have hP : va_P D vwCl [(a0, .inr (7, [.ref r0, .ref r1, .ref r2, .ref r3, .ref r4, .ref r5, .ref r6, .ref r7, .int (nI k), .int tl])), (r2, .inl (cI, 30, .inl (ro 2))), (r4, .inl (cI, 30, .inl (ro 4)))] s.heap := hP
  have hl := lv_entry ([.ref a0]) (n := 3) (Nat.le_of_ble_eq_true rfl)
  rw [lg_entry_eq]
  generalize (lg_sl ([.ref a0]) ++ List.replicate (3 - (lg_sl ([.ref a0])).length) Slot.unset).toArray = ls at hl ⊢
  have hl : lv_has ls 3 [(0, .ref a0)] := hl
  refine lv_iconst (v := 0) hx hb dX7_lossOfGhosts_0 (by decide) ?_
  refine lv_istore_n (lv' := [(1, .int 0), (0, .ref a0)]) hx hb dX7_lossOfGhosts_1 rfl hl (by decide) rfl (fun ls hl => ?_)
  refine lv_iconst (v := 0) hx hb dX7_lossOfGhosts_2 (by decide) ?_
  refine lv_istore_n (lv' := [(2, .int 0), (1, .int 0), (0, .ref a0)]) hx hb dX7_lossOfGhosts_3 rfl hl (by decide) rfl (fun ls hl => ?_)
  have lp4 : ∀ (n4 : Nat) (i : Nat) (x4_1 : Int32) (x4_2 : Int32), k - i < n4 → (i ≤ k) → x4_1 = ftLossG ro i → x4_2 = nI i → ∀ ls : Array Slot, lv_has ls 3 [(0, .ref a0), (1, .int x4_1), (2, .int x4_2)] → W p l e (headSpec wsX7_lossOfGhosts { frames := 1, cells := 0, slots := 0, locals := 21 }).room s m ([.ref a0] : List Value).toArray below meth c s.heap [] 0 0 (MQ below (vp_Si (fun o9 => o9 = ftLossG ro k)) ([.ref a0] : List Value).toArray s 0 0 (fun _ => False)) (F0 m 4 ls []) := by
    intro n4
    induction n4 with
    | zero =>
      intro i x4_1 x4_2  hm4
      exact absurd hm4 (Nat.not_lt_zero _)
    | succ n4 ih4 =>
      intro i x4_1 x4_2  hm4 hik ex4_1 ex4_2  ls hl
      subst ex4_2
      refine lv_iload_n hx hb dX7_lossOfGhosts_4 rfl (lv_at hl 2 rfl) ?_
      refine lv_aload_n hx hb dX7_lossOfGhosts_5 rfl (lv_at hl 0 rfl) ?_
      refine va_get (D := D) (ci := 7) (v := .int (nI k)) (C := RX7) (T := TX7) (N := 10) hx hb hts (by decide +kernel) hown hK hP 0 rfl rfl 8 (by decide) (hts (.fieldLink RX7 36 "FiberTrace$Reading" "size" "I") (by decide +kernel)) (fun _ h9 => h9) rfl dX7_lossOfGhosts_6 ?_
      refine lv_icmp_ge (tgt := 45) hx hb dX7_lossOfGhosts_9 (by decide) (fun c9 => ?_) (fun c9 => ?_)
      · have c9n : k ≤ i := ft_leN (by omega) (by omega) c9
        refine lv_iload_n hx hb dX7_lossOfGhosts_45 rfl (lv_at hl 1 rfl) ?_
        exact W.iret (v := x4_1) hx hb hr (fun t ht hW => ⟨x4_1, rfl, (by show (x4_1 : Int32) = ftLossG ro k; (obtain rfl : i = k := by omega); exact ex4_1), ht⟩) (fun _ h9 => absurd h9 List.not_mem_nil) dX7_lossOfGhosts_46
      · have c9n : i < k := ft_nleN (by omega) (by omega) c9
        refine lv_iload_n hx hb dX7_lossOfGhosts_12 rfl (lv_at hl 1 rfl) ?_
        refine lv_aload_n hx hb dX7_lossOfGhosts_13 rfl (lv_at hl 0 rfl) ?_
        refine va_get (D := D) (ci := 7) (v := .ref r4) (C := RX7) (T := TX7) (N := 10) hx hb hts (by decide +kernel) hown hK hP 0 rfl rfl 4 (by decide) (hts (.fieldLink RX7 24 "FiberTrace$Reading" "kinds" "[I") (by decide +kernel)) (fun _ h9 => h9) rfl dX7_lossOfGhosts_14 ?_
        refine lv_iload_n hx hb dX7_lossOfGhosts_17 rfl (lv_at hl 2 rfl) ?_
        refine ft_csi (r := ftAt 30 (ro 4) (nI i)) (va_runSN (As := [.ref r4, .int (nI i)]) (rest := [.int x4_1]) ⟨hx, hb, hml, hown, hts⟩ (c_X10_at l D cI cS r4 30 (ro 4) (nI i) (by first | assumption | omega)) ⟨va_cnB 2 hts gX7_lossOfGhosts_X10_at_n40 rfl rfl rfl (hKK.2 _ (List.mem_of_getElem? (i := 22) rfl)) (hts (.initialized RX10) (by decide +kernel)) (by decide +kernel) ⟨Nat.le_of_ble_eq_true rfl, Nat.le_of_ble_eq_true rfl⟩, hts (.static yX10_at) (by decide +kernel), trivial⟩ (ft_preRO hP hKK [2] rfl) rfl rfl hl.1 rfl (lv_room (Nat.le_of_ble_eq_true rfl)) dX7_lossOfGhosts_18 ⟨Nat.le_of_ble_eq_true rfl, Nat.le_of_ble_eq_true rfl⟩) ?_
        refine ft_top (y := (ro 4) i) (ftAt_N (by omega) (by omega)) ?_
        refine lv_iconst (v := 2) hx hb dX7_lossOfGhosts_21 (by decide) ?_
        refine lv_icmp_ne (tgt := 36) hx hb dX7_lossOfGhosts_22 (by decide) (fun c22 => ?_) (fun c22 => ?_)
        · refine lv_iconst (v := 0) hx hb dX7_lossOfGhosts_36 (by decide) ?_
          refine lv_iadd hx hb dX7_lossOfGhosts_37 ?_
          refine lv_istore_n (lv' := [(1, .int (x4_1 + 0)), (0, .ref a0), (2, .int (nI i))]) hx hb dX7_lossOfGhosts_38 rfl hl (by decide) rfl (fun ls hl => ?_)
          refine lv_iinc (v := nI (i + 1)) (lv' := [(2, .int (nI (i + 1))), (1, .int (x4_1 + 0)), (0, .ref a0)]) hx hb dX7_lossOfGhosts_39 hl (k := 2) rfl (ft_inc i) (by decide) rfl (fun ls hl => ?_)
          refine lv_goto (tgt := 4) hx hb dX7_lossOfGhosts_42 (by decide) ?_
          exact ih4 (i + 1) (x4_1 + 0) (nI (i + 1))  (by omega) (by omega) (by rw [ftLossG]; first | (rw [if_pos c22, ex4_1]; done) | (rw [if_neg c22, ex4_1]; done)) (by first | rfl | assumption)  ls (lv_sub hl [2, 1, 0] rfl)
        · refine lv_aload_n hx hb dX7_lossOfGhosts_25 rfl (lv_at hl 0 rfl) ?_
          refine va_get (D := D) (ci := 7) (v := .ref r2) (C := RX7) (T := TX7) (N := 10) hx hb hts (by decide +kernel) hown hK hP 0 rfl rfl 2 (by decide) (hts (.fieldLink RX7 18 "FiberTrace$Reading" "losses" "[I") (by decide +kernel)) (fun _ h9 => h9) rfl dX7_lossOfGhosts_26 ?_
          refine lv_iload_n hx hb dX7_lossOfGhosts_29 rfl (lv_at hl 2 rfl) ?_
          refine ft_csi (r := ftAt 30 (ro 2) (nI i)) (va_runSN (As := [.ref r2, .int (nI i)]) (rest := [.int x4_1]) ⟨hx, hb, hml, hown, hts⟩ (c_X10_at l D cI cS r2 30 (ro 2) (nI i) (by first | assumption | omega)) ⟨va_cnB 2 hts gX7_lossOfGhosts_X10_at_n40 rfl rfl rfl (hKK.2 _ (List.mem_of_getElem? (i := 22) rfl)) (hts (.initialized RX10) (by decide +kernel)) (by decide +kernel) ⟨Nat.le_of_ble_eq_true rfl, Nat.le_of_ble_eq_true rfl⟩, hts (.static yX10_at) (by decide +kernel), trivial⟩ (ft_preRO hP hKK [1] rfl) rfl rfl hl.1 rfl (lv_room (Nat.le_of_ble_eq_true rfl)) dX7_lossOfGhosts_30 ⟨Nat.le_of_ble_eq_true rfl, Nat.le_of_ble_eq_true rfl⟩) ?_
          refine ft_top (y := (ro 2) i) (ftAt_N (by omega) (by omega)) ?_
          refine lv_goto (tgt := 37) hx hb dX7_lossOfGhosts_33 (by decide) ?_
          refine lv_iadd hx hb dX7_lossOfGhosts_37 ?_
          refine lv_istore_n (lv' := [(1, .int (x4_1 + ((ro 2) i))), (0, .ref a0), (2, .int (nI i))]) hx hb dX7_lossOfGhosts_38 rfl hl (by decide) rfl (fun ls hl => ?_)
          refine lv_iinc (v := nI (i + 1)) (lv' := [(2, .int (nI (i + 1))), (1, .int (x4_1 + ((ro 2) i))), (0, .ref a0)]) hx hb dX7_lossOfGhosts_39 hl (k := 2) rfl (ft_inc i) (by decide) rfl (fun ls hl => ?_)
          refine lv_goto (tgt := 4) hx hb dX7_lossOfGhosts_42 (by decide) ?_
          exact ih4 (i + 1) (x4_1 + ((ro 2) i)) (nI (i + 1))  (by omega) (by omega) (by rw [ftLossG]; first | (rw [if_pos c22, ex4_1]; done) | (rw [if_neg c22, ex4_1]; done)) (by first | rfl | assumption)  ls (lv_sub hl [2, 1, 0] rfl)
  exact lp4 _ 0 0 0  (Nat.lt_succ_self _) (by omega) (by rfl) (by rfl) ls (lv_sub hl [2, 1, 0] rfl)
set_option maxHeartbeats 4000000 in
set_option maxRecDepth 100000 in
theorem c_X7_countOf (l : Launch) (D : va_G) (cI cS : ClassId) (a0 r0 r1 r2 r3 r4 r5 r6 r7 k : Nat) (tl : Int32) (ro : Nat → Nat → Int32) (kd : Int32) (hk : k ≤ 30) : Met l yX7_countOf wsX7_countOf ({ frames := 1, cells := 0, slots := 0, locals := 21 }) (ftRO D cI cS [.ref a0, .int kd] [(a0, .inr (7, [.ref r0, .ref r1, .ref r2, .ref r3, .ref r4, .ref r5, .ref r6, .ref r7, .int (nI k), .int tl])), (r4, .inl (cI, 30, .inl (ro 4)))]) (vp_Si (fun o9 => o9 = ftCount (fun i => ro 4 i = kd) k)) 0 0 (fun _ => False) := by
  refine Met.ofW (cc := cX7_countOf) (maxL := 4) (ret := (some .int)) (by decide) rfl ?_
  intro p e s m args below meth c s₁ B hml hv
  obtain ⟨rfl, hP, hKK⟩ := hv
  have hK := hKK.1
  have hx := B.exec
  have hb := B.bytes
  have hr := B.returns
  have hts := atoms_spec (ws := wsX7_countOf) B.pre
  have hown : s.vm.findClass RX7 = some m.cls := findClass_of_methodNamed B.named
  have hlocks := B.notSynchronized
  have hP : va_P D vwCl [(a0, .inr (7, [.ref r0, .ref r1, .ref r2, .ref r3, .ref r4, .ref r5, .ref r6, .ref r7, .int (nI k), .int tl])), (r4, .inl (cI, 30, .inl (ro 4)))] s.heap := hP
  have hl := lv_entry ([.ref a0, .int kd]) (n := 4) (Nat.le_of_ble_eq_true rfl)
  rw [lg_entry_eq]
  generalize (lg_sl ([.ref a0, .int kd]) ++ List.replicate (4 - (lg_sl ([.ref a0, .int kd])).length) Slot.unset).toArray = ls at hl ⊢
  have hl : lv_has ls 4 [(0, .ref a0), (1, .int kd)] := hl
  refine lv_iconst (v := 0) hx hb dX7_countOf_0 (by decide) ?_
  refine lv_istore_n (lv' := [(2, .int 0), (0, .ref a0), (1, .int kd)]) hx hb dX7_countOf_1 rfl hl (by decide) rfl (fun ls hl => ?_)
  refine lv_iconst (v := 0) hx hb dX7_countOf_2 (by decide) ?_
  refine lv_istore_n (lv' := [(3, .int 0), (2, .int 0), (0, .ref a0), (1, .int kd)]) hx hb dX7_countOf_3 rfl hl (by decide) rfl (fun ls hl => ?_)
  have lp4 : ∀ (n4 : Nat) (i : Nat) (x4_2 : Int32) (x4_3 : Int32), k - i < n4 → (i ≤ k) → x4_2 = ftCount (fun i => ro 4 i = kd) i → x4_3 = nI i → ∀ ls : Array Slot, lv_has ls 4 [(0, .ref a0), (1, .int kd), (2, .int x4_2), (3, .int x4_3)] → W p l e (headSpec wsX7_countOf { frames := 1, cells := 0, slots := 0, locals := 21 }).room s m ([.ref a0, .int kd] : List Value).toArray below meth c s.heap [] 0 0 (MQ below (vp_Si (fun o9 => o9 = ftCount (fun i => ro 4 i = kd) k)) ([.ref a0, .int kd] : List Value).toArray s 0 0 (fun _ => False)) (F0 m 4 ls []) := by
    intro n4
    induction n4 with
    | zero =>
      intro i x4_2 x4_3  hm4
      exact absurd hm4 (Nat.not_lt_zero _)
    | succ n4 ih4 =>
      intro i x4_2 x4_3  hm4 hik ex4_2 ex4_3  ls hl
      subst ex4_3
      refine lv_iload_n hx hb dX7_countOf_4 rfl (lv_at hl 3 rfl) ?_
      refine lv_aload_n hx hb dX7_countOf_5 rfl (lv_at hl 0 rfl) ?_
      refine va_get (D := D) (ci := 7) (v := .int (nI k)) (C := RX7) (T := TX7) (N := 10) hx hb hts (by decide +kernel) hown hK hP 0 rfl rfl 8 (by decide) (hts (.fieldLink RX7 36 "FiberTrace$Reading" "size" "I") (by decide +kernel)) (fun _ h9 => h9) rfl dX7_countOf_6 ?_
      refine lv_icmp_ge (tgt := 38) hx hb dX7_countOf_9 (by decide) (fun c9 => ?_) (fun c9 => ?_)
      · have c9n : k ≤ i := ft_leN (by omega) (by omega) c9
        refine lv_iload_n hx hb dX7_countOf_38 rfl (lv_at hl 2 rfl) ?_
        exact W.iret (v := x4_2) hx hb hr (fun t ht hW => ⟨x4_2, rfl, (by show (x4_2 : Int32) = ftCount (fun i => ro 4 i = kd) k; (obtain rfl : i = k := by omega); exact ex4_2), ht⟩) (fun _ h9 => absurd h9 List.not_mem_nil) dX7_countOf_39
      · have c9n : i < k := ft_nleN (by omega) (by omega) c9
        refine lv_iload_n hx hb dX7_countOf_12 rfl (lv_at hl 2 rfl) ?_
        refine lv_aload_n hx hb dX7_countOf_13 rfl (lv_at hl 0 rfl) ?_
        refine va_get (D := D) (ci := 7) (v := .ref r4) (C := RX7) (T := TX7) (N := 10) hx hb hts (by decide +kernel) hown hK hP 0 rfl rfl 4 (by decide) (hts (.fieldLink RX7 24 "FiberTrace$Reading" "kinds" "[I") (by decide +kernel)) (fun _ h9 => h9) rfl dX7_countOf_14 ?_
        refine lv_iload_n hx hb dX7_countOf_17 rfl (lv_at hl 3 rfl) ?_
        refine ft_csi (r := ftAt 30 (ro 4) (nI i)) (va_runSN (As := [.ref r4, .int (nI i)]) (rest := [.int x4_2]) ⟨hx, hb, hml, hown, hts⟩ (c_X10_at l D cI cS r4 30 (ro 4) (nI i) (by first | assumption | omega)) ⟨va_cnB 2 hts gX7_countOf_X10_at_n40 rfl rfl rfl (hKK.2 _ (List.mem_of_getElem? (i := 22) rfl)) (hts (.initialized RX10) (by decide +kernel)) (by decide +kernel) ⟨Nat.le_of_ble_eq_true rfl, Nat.le_of_ble_eq_true rfl⟩, hts (.static yX10_at) (by decide +kernel), trivial⟩ (ft_preRO hP hKK [1] rfl) rfl rfl hl.1 rfl (lv_room (Nat.le_of_ble_eq_true rfl)) dX7_countOf_18 ⟨Nat.le_of_ble_eq_true rfl, Nat.le_of_ble_eq_true rfl⟩) ?_
        refine ft_top (y := (ro 4) i) (ftAt_N (by omega) (by omega)) ?_
        refine lv_iload_n hx hb dX7_countOf_21 rfl (lv_at hl 1 rfl) ?_
        refine lv_icmp_ne (tgt := 29) hx hb dX7_countOf_22 (by decide) (fun c22 => ?_) (fun c22 => ?_)
        · refine lv_iconst (v := 0) hx hb dX7_countOf_29 (by decide) ?_
          refine lv_iadd hx hb dX7_countOf_30 ?_
          refine lv_istore_n (lv' := [(2, .int (x4_2 + 0)), (0, .ref a0), (1, .int kd), (3, .int (nI i))]) hx hb dX7_countOf_31 rfl hl (by decide) rfl (fun ls hl => ?_)
          refine lv_iinc (v := nI (i + 1)) (lv' := [(3, .int (nI (i + 1))), (2, .int (x4_2 + 0)), (0, .ref a0), (1, .int kd)]) hx hb dX7_countOf_32 hl (k := 3) rfl (ft_inc i) (by decide) rfl (fun ls hl => ?_)
          refine lv_goto (tgt := 4) hx hb dX7_countOf_35 (by decide) ?_
          exact ih4 (i + 1) (x4_2 + 0) (nI (i + 1))  (by omega) (by omega) (by first | exact ftCount_t ex4_2 c22 | exact ftCount_f ex4_2 c22) (by first | rfl | assumption)  ls (lv_sub hl [2, 3, 1, 0] rfl)
        · refine lv_iconst (v := 1) hx hb dX7_countOf_25 (by decide) ?_
          refine lv_goto (tgt := 30) hx hb dX7_countOf_26 (by decide) ?_
          refine lv_iadd hx hb dX7_countOf_30 ?_
          refine lv_istore_n (lv' := [(2, .int (x4_2 + 1)), (0, .ref a0), (1, .int kd), (3, .int (nI i))]) hx hb dX7_countOf_31 rfl hl (by decide) rfl (fun ls hl => ?_)
          refine lv_iinc (v := nI (i + 1)) (lv' := [(3, .int (nI (i + 1))), (2, .int (x4_2 + 1)), (0, .ref a0), (1, .int kd)]) hx hb dX7_countOf_32 hl (k := 3) rfl (ft_inc i) (by decide) rfl (fun ls hl => ?_)
          refine lv_goto (tgt := 4) hx hb dX7_countOf_35 (by decide) ?_
          exact ih4 (i + 1) (x4_2 + 1) (nI (i + 1))  (by omega) (by omega) (by first | exact ftCount_t ex4_2 c22 | exact ftCount_f ex4_2 c22) (by first | rfl | assumption)  ls (lv_sub hl [2, 3, 1, 0] rfl)
  exact lp4 _ 0 0 0  (Nat.lt_succ_self _) (by omega) (by rfl) (by rfl) ls (lv_sub hl [2, 3, 1, 0] rfl)
set_option maxHeartbeats 4000000 in
set_option maxRecDepth 100000 in
theorem c_X7_covering (l : Launch) (D : va_G) (cI cS : ClassId) (a0 r0 r1 r2 r3 r4 r5 r6 r7 k : Nat) (tl : Int32) (ro : Nat → Nat → Int32) (x : Int32) (hk : k ≤ 30) : Met l yX7_covering wsX7_covering ({ frames := 1, cells := 0, slots := 0, locals := 22 }) (ftRO D cI cS [.ref a0, .int x] [(a0, .inr (7, [.ref r0, .ref r1, .ref r2, .ref r3, .ref r4, .ref r5, .ref r6, .ref r7, .int (nI k), .int tl])), (r0, .inl (cI, 30, .inl (ro 0))), (r1, .inl (cI, 30, .inl (ro 1)))]) (vp_Si (fun o9 => o9 = ftCov ro k x)) 0 0 (fun _ => False) := by
  refine Met.ofW (cc := cX7_covering) (maxL := 3) (ret := (some .int)) (by decide) rfl ?_
  intro p e s m args below meth c s₁ B hml hv
  obtain ⟨rfl, hP, hKK⟩ := hv
  have hK := hKK.1
  have hx := B.exec
  have hb := B.bytes
  have hr := B.returns
  have hts := atoms_spec (ws := wsX7_covering) B.pre
  have hown : s.vm.findClass RX7 = some m.cls := findClass_of_methodNamed B.named
  have hlocks := B.notSynchronized
  have hP : va_P D vwCl [(a0, .inr (7, [.ref r0, .ref r1, .ref r2, .ref r3, .ref r4, .ref r5, .ref r6, .ref r7, .int (nI k), .int tl])), (r0, .inl (cI, 30, .inl (ro 0))), (r1, .inl (cI, 30, .inl (ro 1)))] s.heap := hP
  have hl := lv_entry ([.ref a0, .int x]) (n := 3) (Nat.le_of_ble_eq_true rfl)
  rw [lg_entry_eq]
  generalize (lg_sl ([.ref a0, .int x]) ++ List.replicate (3 - (lg_sl ([.ref a0, .int x])).length) Slot.unset).toArray = ls at hl ⊢
  have hl : lv_has ls 3 [(0, .ref a0), (1, .int x)] := hl
  refine lv_iconst (v := 0) hx hb dX7_covering_0 (by decide) ?_
  refine lv_istore_n (lv' := [(2, .int 0), (0, .ref a0), (1, .int x)]) hx hb dX7_covering_1 rfl hl (by decide) rfl (fun ls hl => ?_)
  have lp2 : ∀ (n2 : Nat) (i : Nat) (x2_2 : Int32), k - i < n2 → (i ≤ k) → (∀ t, t < i → ¬ (ro 0 t ≤ x ∧ x ≤ ro 1 t)) → x2_2 = nI i → ∀ ls : Array Slot, lv_has ls 3 [(0, .ref a0), (1, .int x), (2, .int x2_2)] → W p l e (headSpec wsX7_covering { frames := 1, cells := 0, slots := 0, locals := 22 }).room s m ([.ref a0, .int x] : List Value).toArray below meth c s.heap [] 0 0 (MQ below (vp_Si (fun o9 => o9 = ftCov ro k x)) ([.ref a0, .int x] : List Value).toArray s 0 0 (fun _ => False)) (F0 m 2 ls []) := by
    intro n2
    induction n2 with
    | zero =>
      intro i x2_2  hm2
      exact absurd hm2 (Nat.not_lt_zero _)
    | succ n2 ih2 =>
      intro i x2_2  hm2 hik hno ex2_2  ls hl
      subst ex2_2
      refine lv_iload_n hx hb dX7_covering_2 rfl (lv_at hl 2 rfl) ?_
      refine lv_aload_n hx hb dX7_covering_3 rfl (lv_at hl 0 rfl) ?_
      refine va_get (D := D) (ci := 7) (v := .int (nI k)) (C := RX7) (T := TX7) (N := 10) hx hb hts (by decide +kernel) hown hK hP 0 rfl rfl 8 (by decide) (hts (.fieldLink RX7 36 "FiberTrace$Reading" "size" "I") (by decide +kernel)) (fun _ h9 => h9) rfl dX7_covering_4 ?_
      refine lv_icmp_ge (tgt := 41) hx hb dX7_covering_7 (by decide) (fun c7 => ?_) (fun c7 => ?_)
      · have c7n : k ≤ i := ft_leN (by omega) (by omega) c7
        refine lv_iconst (v := (-1)) hx hb dX7_covering_41 (by decide) ?_
        exact W.iret (v := (-1)) hx hb hr (fun t ht hW => ⟨(-1), rfl, (by show ((-1) : Int32) = ftCov ro k x; exact (ftFst_none (P := fun i => ro 0 i ≤ x ∧ x ≤ ro 1 i) (fun t ht => hno t (by omega))).symm), ht⟩) (fun _ h9 => absurd h9 List.not_mem_nil) dX7_covering_42
      · have c7n : i < k := ft_nleN (by omega) (by omega) c7
        refine lv_iload_n hx hb dX7_covering_10 rfl (lv_at hl 1 rfl) ?_
        refine lv_aload_n hx hb dX7_covering_11 rfl (lv_at hl 0 rfl) ?_
        refine va_get (D := D) (ci := 7) (v := .ref r0) (C := RX7) (T := TX7) (N := 10) hx hb hts (by decide +kernel) hown hK hP 0 rfl rfl 0 (by decide) (hts (.fieldLink RX7 9 "FiberTrace$Reading" "begins" "[I") (by decide +kernel)) (fun _ h9 => h9) rfl dX7_covering_12 ?_
        refine lv_iload_n hx hb dX7_covering_15 rfl (lv_at hl 2 rfl) ?_
        refine ft_csi (r := ftAt 30 (ro 0) (nI i)) (va_runSN (As := [.ref r0, .int (nI i)]) (rest := [.int x]) ⟨hx, hb, hml, hown, hts⟩ (c_X10_at l D cI cS r0 30 (ro 0) (nI i) (by first | assumption | omega)) ⟨va_cnB 2 hts gX7_covering_X10_at_n40 rfl rfl rfl (hKK.2 _ (List.mem_of_getElem? (i := 22) rfl)) (hts (.initialized RX10) (by decide +kernel)) (by decide +kernel) ⟨Nat.le_of_ble_eq_true rfl, Nat.le_of_ble_eq_true rfl⟩, hts (.static yX10_at) (by decide +kernel), trivial⟩ (ft_preRO hP hKK [1] rfl) rfl rfl hl.1 rfl (lv_room (Nat.le_of_ble_eq_true rfl)) dX7_covering_16 ⟨Nat.le_of_ble_eq_true rfl, Nat.le_of_ble_eq_true rfl⟩) ?_
        refine ft_top (y := (ro 0) i) (ftAt_N (by omega) (by omega)) ?_
        refine lv_aload_n hx hb dX7_covering_19 rfl (lv_at hl 0 rfl) ?_
        refine va_get (D := D) (ci := 7) (v := .ref r1) (C := RX7) (T := TX7) (N := 10) hx hb hts (by decide +kernel) hown hK hP 0 rfl rfl 1 (by decide) (hts (.fieldLink RX7 15 "FiberTrace$Reading" "ends" "[I") (by decide +kernel)) (fun _ h9 => h9) rfl dX7_covering_20 ?_
        refine lv_iload_n hx hb dX7_covering_23 rfl (lv_at hl 2 rfl) ?_
        refine ft_csi (r := ftAt 30 (ro 1) (nI i)) (va_runSN (As := [.ref r1, .int (nI i)]) (rest := [.int ((ro 0) i), .int x]) ⟨hx, hb, hml, hown, hts⟩ (c_X10_at l D cI cS r1 30 (ro 1) (nI i) (by first | assumption | omega)) ⟨va_cnB 2 hts gX7_covering_X10_at_n40 rfl rfl rfl (hKK.2 _ (List.mem_of_getElem? (i := 22) rfl)) (hts (.initialized RX10) (by decide +kernel)) (by decide +kernel) ⟨Nat.le_of_ble_eq_true rfl, Nat.le_of_ble_eq_true rfl⟩, hts (.static yX10_at) (by decide +kernel), trivial⟩ (ft_preRO hP hKK [2] rfl) rfl rfl hl.1 rfl (lv_room (Nat.le_of_ble_eq_true rfl)) dX7_covering_24 ⟨Nat.le_of_ble_eq_true rfl, Nat.le_of_ble_eq_true rfl⟩) ?_
        refine ft_top (y := (ro 1) i) (ftAt_N (by omega) (by omega)) ?_
        refine ft_csi (r := ftB (((ro 0) i) ≤ x ∧ x ≤ ((ro 1) i))) (va_runSN (As := [.int x, .int ((ro 0) i), .int ((ro 1) i)]) (rest := []) ⟨hx, hb, hml, hown, hts⟩ (c_X10_isWithin l D cI cS x ((ro 0) i) ((ro 1) i)) ⟨va_cnB 3 hts gX7_covering_X10_isWithin_n81 rfl rfl rfl (hKK.2 _ (List.mem_of_getElem? (i := 24) rfl)) (hts (.initialized RX10) (by decide +kernel)) (by decide +kernel) ⟨Nat.le_of_ble_eq_true rfl, Nat.le_of_ble_eq_true rfl⟩, hts (.static yX10_isWithin) (by decide +kernel), trivial⟩ (ft_preRO hP hKK [] rfl) rfl rfl hl.1 rfl (lv_room (Nat.le_of_ble_eq_true rfl)) dX7_covering_27 ⟨Nat.le_of_ble_eq_true rfl, Nat.le_of_ble_eq_true rfl⟩) ?_
        refine lv_if_eq (tgt := 35) hx hb dX7_covering_30 (by decide) (fun c30 => ?_) (fun c30 => ?_)
        · replace c30 := ftB_eq c30
          refine lv_iinc (v := nI (i + 1)) (lv' := [(2, .int (nI (i + 1))), (0, .ref a0), (1, .int x)]) hx hb dX7_covering_35 hl (k := 2) rfl (ft_inc i) (by decide) rfl (fun ls hl => ?_)
          refine lv_goto (tgt := 2) hx hb dX7_covering_38 (by decide) ?_
          exact ih2 (i + 1) (nI (i + 1))  (by omega) (by omega) (by intro t ht; rcases Nat.lt_succ_iff_lt_or_eq.mp ht with r | r; exact hno t r; subst r; exact c30) (by first | rfl | assumption)  ls (lv_sub hl [1, 2, 0] rfl)
        · replace c30 := ftB_ne c30
          refine lv_iload_n hx hb dX7_covering_33 rfl (lv_at hl 2 rfl) ?_
          exact W.iret (v := nI i) hx hb hr (fun t ht hW => ⟨nI i, rfl, (by show (nI i : Int32) = ftCov ro k x; exact (ftFst_some (P := fun i => ro 0 i ≤ x ∧ x ≤ ro 1 i) (by omega) c30 hno k (by omega)).symm), ht⟩) (fun _ h9 => absurd h9 List.not_mem_nil) dX7_covering_34
  exact lp2 _ 0 0  (Nat.lt_succ_self _) (by omega) (by intro t ht; omega) (by rfl) ls (lv_sub hl [1, 2, 0] rfl)
set_option maxHeartbeats 4000000 in
set_option maxRecDepth 100000 in
theorem c_X7_greatestLoss (l : Launch) (D : va_G) (cI cS : ClassId) (a0 r0 r1 r2 r3 r4 r5 r6 r7 k : Nat) (tl : Int32) (ro : Nat → Nat → Int32) (hk : k ≤ 30) : Met l yX7_greatestLoss wsX7_greatestLoss ({ frames := 1, cells := 0, slots := 0, locals := 21 }) (ftRO D cI cS [.ref a0] [(a0, .inr (7, [.ref r0, .ref r1, .ref r2, .ref r3, .ref r4, .ref r5, .ref r6, .ref r7, .int (nI k), .int tl])), (r2, .inl (cI, 30, .inl (ro 2))), (r4, .inl (cI, 30, .inl (ro 4)))]) (vp_Si (fun o9 => o9 = ftWorst ro k)) 0 0 (fun _ => False) := by
  refine Met.ofW (cc := cX7_greatestLoss) (maxL := 3) (ret := (some .int)) (by decide) rfl ?_
  intro p e s m args below meth c s₁ B hml hv
  obtain ⟨rfl, hP, hKK⟩ := hv
  have hK := hKK.1
  have hx := B.exec
  have hb := B.bytes
  have hr := B.returns
  have hts := atoms_spec (ws := wsX7_greatestLoss) B.pre
  have hown : s.vm.findClass RX7 = some m.cls := findClass_of_methodNamed B.named
  have hlocks := B.notSynchronized
  have hP : va_P D vwCl [(a0, .inr (7, [.ref r0, .ref r1, .ref r2, .ref r3, .ref r4, .ref r5, .ref r6, .ref r7, .int (nI k), .int tl])), (r2, .inl (cI, 30, .inl (ro 2))), (r4, .inl (cI, 30, .inl (ro 4)))] s.heap := hP
  have hl := lv_entry ([.ref a0]) (n := 3) (Nat.le_of_ble_eq_true rfl)
  rw [lg_entry_eq]
  generalize (lg_sl ([.ref a0]) ++ List.replicate (3 - (lg_sl ([.ref a0])).length) Slot.unset).toArray = ls at hl ⊢
  have hl : lv_has ls 3 [(0, .ref a0)] := hl
  refine lv_iconst (v := (-1)) hx hb dX7_greatestLoss_0 (by decide) ?_
  refine lv_istore_n (lv' := [(1, .int (-1)), (0, .ref a0)]) hx hb dX7_greatestLoss_1 rfl hl (by decide) rfl (fun ls hl => ?_)
  refine lv_iconst (v := 0) hx hb dX7_greatestLoss_2 (by decide) ?_
  refine lv_istore_n (lv' := [(2, .int 0), (1, .int (-1)), (0, .ref a0)]) hx hb dX7_greatestLoss_3 rfl hl (by decide) rfl (fun ls hl => ?_)
  have lp4 : ∀ (n4 : Nat) (i : Nat) (x4_1 : Int32) (x4_2 : Int32), k - i < n4 → (i ≤ k) → x4_1 = ftWorst ro i → x4_2 = nI i → ∀ ls : Array Slot, lv_has ls 3 [(0, .ref a0), (1, .int x4_1), (2, .int x4_2)] → W p l e (headSpec wsX7_greatestLoss { frames := 1, cells := 0, slots := 0, locals := 21 }).room s m ([.ref a0] : List Value).toArray below meth c s.heap [] 0 0 (MQ below (vp_Si (fun o9 => o9 = ftWorst ro k)) ([.ref a0] : List Value).toArray s 0 0 (fun _ => False)) (F0 m 4 ls []) := by
    intro n4
    induction n4 with
    | zero =>
      intro i x4_1 x4_2  hm4
      exact absurd hm4 (Nat.not_lt_zero _)
    | succ n4 ih4 =>
      intro i x4_1 x4_2  hm4 hik ex4_1 ex4_2  ls hl
      subst ex4_2
      refine lv_iload_n hx hb dX7_greatestLoss_4 rfl (lv_at hl 2 rfl) ?_
      refine lv_aload_n hx hb dX7_greatestLoss_5 rfl (lv_at hl 0 rfl) ?_
      refine va_get (D := D) (ci := 7) (v := .int (nI k)) (C := RX7) (T := TX7) (N := 10) hx hb hts (by decide +kernel) hown hK hP 0 rfl rfl 8 (by decide) (hts (.fieldLink RX7 36 "FiberTrace$Reading" "size" "I") (by decide +kernel)) (fun _ h9 => h9) rfl dX7_greatestLoss_6 ?_
      refine lv_icmp_ge (tgt := 56) hx hb dX7_greatestLoss_9 (by decide) (fun c9 => ?_) (fun c9 => ?_)
      · have c9n : k ≤ i := ft_leN (by omega) (by omega) c9
        refine lv_iload_n hx hb dX7_greatestLoss_56 rfl (lv_at hl 1 rfl) ?_
        exact W.iret (v := x4_1) hx hb hr (fun t ht hW => ⟨x4_1, rfl, (by show (x4_1 : Int32) = ftWorst ro k; (obtain rfl : i = k := by omega); exact ex4_1), ht⟩) (fun _ h9 => absurd h9 List.not_mem_nil) dX7_greatestLoss_57
      · have c9n : i < k := ft_nleN (by omega) (by omega) c9
        refine lv_aload_n hx hb dX7_greatestLoss_12 rfl (lv_at hl 0 rfl) ?_
        refine va_get (D := D) (ci := 7) (v := .ref r4) (C := RX7) (T := TX7) (N := 10) hx hb hts (by decide +kernel) hown hK hP 0 rfl rfl 4 (by decide) (hts (.fieldLink RX7 24 "FiberTrace$Reading" "kinds" "[I") (by decide +kernel)) (fun _ h9 => h9) rfl dX7_greatestLoss_13 ?_
        refine lv_iload_n hx hb dX7_greatestLoss_16 rfl (lv_at hl 2 rfl) ?_
        refine ft_csi (r := ftAt 30 (ro 4) (nI i)) (va_runSN (As := [.ref r4, .int (nI i)]) (rest := []) ⟨hx, hb, hml, hown, hts⟩ (c_X10_at l D cI cS r4 30 (ro 4) (nI i) (by first | assumption | omega)) ⟨va_cnB 2 hts gX7_greatestLoss_X10_at_n40 rfl rfl rfl (hKK.2 _ (List.mem_of_getElem? (i := 22) rfl)) (hts (.initialized RX10) (by decide +kernel)) (by decide +kernel) ⟨Nat.le_of_ble_eq_true rfl, Nat.le_of_ble_eq_true rfl⟩, hts (.static yX10_at) (by decide +kernel), trivial⟩ (ft_preRO hP hKK [2] rfl) rfl rfl hl.1 rfl (lv_room (Nat.le_of_ble_eq_true rfl)) dX7_greatestLoss_17 ⟨Nat.le_of_ble_eq_true rfl, Nat.le_of_ble_eq_true rfl⟩) ?_
        refine ft_top (y := (ro 4) i) (ftAt_N (by omega) (by omega)) ?_
        refine lv_iconst (v := 3) hx hb dX7_greatestLoss_20 (by decide) ?_
        refine lv_icmp_eq (tgt := 50) hx hb dX7_greatestLoss_21 (by decide) (fun c21 => ?_) (fun c21 => ?_)
        · refine lv_iinc (v := nI (i + 1)) (lv' := [(2, .int (nI (i + 1))), (0, .ref a0), (1, .int x4_1)]) hx hb dX7_greatestLoss_50 hl (k := 2) rfl (ft_inc i) (by decide) rfl (fun ls hl => ?_)
          refine lv_goto (tgt := 4) hx hb dX7_greatestLoss_53 (by decide) ?_
          exact ih4 (i + 1) x4_1 (nI (i + 1))  (by omega) (by omega) (by first | exact ftWorst_n ex4_1 c21 (Or.inl c26) | exact ftWorst_n ex4_1 c21 (Or.inr (Int32.not_le.mp c45)) | exact ftWorst_k3 ex4_1 c21 | exact ftWorst_k ex4_1 c26 c45) (by first | rfl | assumption)  ls (lv_sub hl [1, 2, 0] rfl)
        · refine lv_iload_n hx hb dX7_greatestLoss_24 rfl (lv_at hl 1 rfl) ?_
          refine lv_iconst (v := (-1)) hx hb dX7_greatestLoss_25 (by decide) ?_
          refine lv_icmp_eq (tgt := 48) hx hb dX7_greatestLoss_26 (by decide) (fun c26 => ?_) (fun c26 => ?_)
          · refine lv_iload_n hx hb dX7_greatestLoss_48 rfl (lv_at hl 2 rfl) ?_
            refine lv_istore_n (lv' := [(1, .int (nI i)), (0, .ref a0), (2, .int (nI i))]) hx hb dX7_greatestLoss_49 rfl hl (by decide) rfl (fun ls hl => ?_)
            refine lv_iinc (v := nI (i + 1)) (lv' := [(2, .int (nI (i + 1))), (1, .int (nI i)), (0, .ref a0)]) hx hb dX7_greatestLoss_50 hl (k := 2) rfl (ft_inc i) (by decide) rfl (fun ls hl => ?_)
            refine lv_goto (tgt := 4) hx hb dX7_greatestLoss_53 (by decide) ?_
            exact ih4 (i + 1) (nI i) (nI (i + 1))  (by omega) (by omega) (by first | exact ftWorst_n ex4_1 c21 (Or.inl c26) | exact ftWorst_n ex4_1 c21 (Or.inr (Int32.not_le.mp c45)) | exact ftWorst_k3 ex4_1 c21 | exact ftWorst_k ex4_1 c26 c45) (by first | rfl | assumption)  ls (lv_sub hl [2, 1, 0] rfl)
          · refine lv_aload_n hx hb dX7_greatestLoss_29 rfl (lv_at hl 0 rfl) ?_
            refine va_get (D := D) (ci := 7) (v := .ref r2) (C := RX7) (T := TX7) (N := 10) hx hb hts (by decide +kernel) hown hK hP 0 rfl rfl 2 (by decide) (hts (.fieldLink RX7 18 "FiberTrace$Reading" "losses" "[I") (by decide +kernel)) (fun _ h9 => h9) rfl dX7_greatestLoss_30 ?_
            refine lv_iload_n hx hb dX7_greatestLoss_33 rfl (lv_at hl 2 rfl) ?_
            refine ft_csi (r := ftAt 30 (ro 2) (nI i)) (va_runSN (As := [.ref r2, .int (nI i)]) (rest := []) ⟨hx, hb, hml, hown, hts⟩ (c_X10_at l D cI cS r2 30 (ro 2) (nI i) (by first | assumption | omega)) ⟨va_cnB 2 hts gX7_greatestLoss_X10_at_n40 rfl rfl rfl (hKK.2 _ (List.mem_of_getElem? (i := 22) rfl)) (hts (.initialized RX10) (by decide +kernel)) (by decide +kernel) ⟨Nat.le_of_ble_eq_true rfl, Nat.le_of_ble_eq_true rfl⟩, hts (.static yX10_at) (by decide +kernel), trivial⟩ (ft_preRO hP hKK [1] rfl) rfl rfl hl.1 rfl (lv_room (Nat.le_of_ble_eq_true rfl)) dX7_greatestLoss_34 ⟨Nat.le_of_ble_eq_true rfl, Nat.le_of_ble_eq_true rfl⟩) ?_
            refine ft_top (y := (ro 2) i) (ftAt_N (by omega) (by omega)) ?_
            refine lv_aload_n hx hb dX7_greatestLoss_37 rfl (lv_at hl 0 rfl) ?_
            refine va_get (D := D) (ci := 7) (v := .ref r2) (C := RX7) (T := TX7) (N := 10) hx hb hts (by decide +kernel) hown hK hP 0 rfl rfl 2 (by decide) (hts (.fieldLink RX7 18 "FiberTrace$Reading" "losses" "[I") (by decide +kernel)) (fun _ h9 => h9) rfl dX7_greatestLoss_38 ?_
            refine lv_iload_n hx hb dX7_greatestLoss_41 rfl (lv_at hl 1 rfl) ?_
            refine ft_csi (r := ftAt 30 (ro 2) x4_1) (va_runSN (As := [.ref r2, .int x4_1]) (rest := [.int ((ro 2) i)]) ⟨hx, hb, hml, hown, hts⟩ (c_X10_at l D cI cS r2 30 (ro 2) x4_1 (by first | assumption | omega)) ⟨va_cnB 2 hts gX7_greatestLoss_X10_at_n40 rfl rfl rfl (hKK.2 _ (List.mem_of_getElem? (i := 22) rfl)) (hts (.initialized RX10) (by decide +kernel)) (by decide +kernel) ⟨Nat.le_of_ble_eq_true rfl, Nat.le_of_ble_eq_true rfl⟩, hts (.static yX10_at) (by decide +kernel), trivial⟩ (ft_preRO hP hKK [1] rfl) rfl rfl hl.1 rfl (lv_room (Nat.le_of_ble_eq_true rfl)) dX7_greatestLoss_42 ⟨Nat.le_of_ble_eq_true rfl, Nat.le_of_ble_eq_true rfl⟩) ?_
            refine lv_icmp_le (tgt := 50) hx hb dX7_greatestLoss_45 (by decide) (fun c45 => ?_) (fun c45 => ?_)
            · refine lv_iinc (v := nI (i + 1)) (lv' := [(2, .int (nI (i + 1))), (0, .ref a0), (1, .int x4_1)]) hx hb dX7_greatestLoss_50 hl (k := 2) rfl (ft_inc i) (by decide) rfl (fun ls hl => ?_)
              refine lv_goto (tgt := 4) hx hb dX7_greatestLoss_53 (by decide) ?_
              exact ih4 (i + 1) x4_1 (nI (i + 1))  (by omega) (by omega) (by first | exact ftWorst_n ex4_1 c21 (Or.inl c26) | exact ftWorst_n ex4_1 c21 (Or.inr (Int32.not_le.mp c45)) | exact ftWorst_k3 ex4_1 c21 | exact ftWorst_k ex4_1 c26 c45) (by first | rfl | assumption)  ls (lv_sub hl [1, 2, 0] rfl)
            · refine lv_iload_n hx hb dX7_greatestLoss_48 rfl (lv_at hl 2 rfl) ?_
              refine lv_istore_n (lv' := [(1, .int (nI i)), (0, .ref a0), (2, .int (nI i))]) hx hb dX7_greatestLoss_49 rfl hl (by decide) rfl (fun ls hl => ?_)
              refine lv_iinc (v := nI (i + 1)) (lv' := [(2, .int (nI (i + 1))), (1, .int (nI i)), (0, .ref a0)]) hx hb dX7_greatestLoss_50 hl (k := 2) rfl (ft_inc i) (by decide) rfl (fun ls hl => ?_)
              refine lv_goto (tgt := 4) hx hb dX7_greatestLoss_53 (by decide) ?_
              exact ih4 (i + 1) (nI i) (nI (i + 1))  (by omega) (by omega) (by first | exact ftWorst_n ex4_1 c21 (Or.inl c26) | exact ftWorst_n ex4_1 c21 (Or.inr (Int32.not_le.mp c45)) | exact ftWorst_k3 ex4_1 c21 | exact ftWorst_k ex4_1 c26 c45) (by first | rfl | assumption)  ls (lv_sub hl [2, 1, 0] rfl)
  exact lp4 _ 0 (-1) 0  (Nat.lt_succ_self _) (by omega) (by rfl) (by rfl) ls (lv_sub hl [2, 1, 0] rfl)
set_option maxHeartbeats 4000000 in
set_option maxRecDepth 100000 in
theorem c_X7_finderOf (l : Launch) (D : va_G) (cI cS : ClassId) (a0 r0 r1 r2 r3 r4 r5 r6 r7 k : Nat) (tl : Int32) (ro : Nat → Nat → Int32) (x : Int32) (hk : k ≤ 30) : Met l yX7_finderOf wsX7_finderOf ({ frames := 2, cells := 0, slots := 0, locals := 52 }) (ftRO D cI cS [.ref a0, .int x] [(a0, .inr (7, [.ref r0, .ref r1, .ref r2, .ref r3, .ref r4, .ref r5, .ref r6, .ref r7, .int (nI k), .int tl])), (r0, .inl (cI, 30, .inl (ro 0))), (r4, .inl (cI, 30, .inl (ro 4)))]) (vp_Si (fun o9 => o9 = ftFinder ro k tl x)) 0 0 (fun _ => False) := by
  refine Met.ofW (cc := cX7_finderOf) (maxL := 3) (ret := (some .int)) (by decide) rfl ?_
  intro p e s m args below meth c s₁ B hml hv
  obtain ⟨rfl, hP, hKK⟩ := hv
  have hK := hKK.1
  have hx := B.exec
  have hb := B.bytes
  have hr := B.returns
  have hts := atoms_spec (ws := wsX7_finderOf) B.pre
  have hown : s.vm.findClass RX7 = some m.cls := findClass_of_methodNamed B.named
  have hlocks := B.notSynchronized
  have hP : va_P D vwCl [(a0, .inr (7, [.ref r0, .ref r1, .ref r2, .ref r3, .ref r4, .ref r5, .ref r6, .ref r7, .int (nI k), .int tl])), (r0, .inl (cI, 30, .inl (ro 0))), (r4, .inl (cI, 30, .inl (ro 4)))] s.heap := hP
  have hl := lv_entry ([.ref a0, .int x]) (n := 3) (Nat.le_of_ble_eq_true rfl)
  rw [lg_entry_eq]
  generalize (lg_sl ([.ref a0, .int x]) ++ List.replicate (3 - (lg_sl ([.ref a0, .int x])).length) Slot.unset).toArray = ls at hl ⊢
  have hl : lv_has ls 3 [(0, .ref a0), (1, .int x)] := hl
  refine lv_iconst (v := 0) hx hb dX7_finderOf_0 (by decide) ?_
  refine lv_istore_n (lv' := [(2, .int 0), (0, .ref a0), (1, .int x)]) hx hb dX7_finderOf_1 rfl hl (by decide) rfl (fun ls hl => ?_)
  have lp2 : ∀ (n2 : Nat) (i : Nat) (x2_2 : Int32), k - i < n2 → (i ≤ k) → (∀ t, t < i → ¬ (¬ ro 4 t = 2 ∧ ftNear tl (ro 0 t) x)) → x2_2 = nI i → ∀ ls : Array Slot, lv_has ls 3 [(0, .ref a0), (1, .int x), (2, .int x2_2)] → W p l e (headSpec wsX7_finderOf { frames := 2, cells := 0, slots := 0, locals := 52 }).room s m ([.ref a0, .int x] : List Value).toArray below meth c s.heap [] 0 0 (MQ below (vp_Si (fun o9 => o9 = ftFinder ro k tl x)) ([.ref a0, .int x] : List Value).toArray s 0 0 (fun _ => False)) (F0 m 2 ls []) := by
    intro n2
    induction n2 with
    | zero =>
      intro i x2_2  hm2
      exact absurd hm2 (Nat.not_lt_zero _)
    | succ n2 ih2 =>
      intro i x2_2  hm2 hik hno ex2_2  ls hl
      subst ex2_2
      refine lv_iload_n hx hb dX7_finderOf_2 rfl (lv_at hl 2 rfl) ?_
      refine lv_aload_n hx hb dX7_finderOf_3 rfl (lv_at hl 0 rfl) ?_
      refine va_get (D := D) (ci := 7) (v := .int (nI k)) (C := RX7) (T := TX7) (N := 10) hx hb hts (by decide +kernel) hown hK hP 0 rfl rfl 8 (by decide) (hts (.fieldLink RX7 36 "FiberTrace$Reading" "size" "I") (by decide +kernel)) (fun _ h9 => h9) rfl dX7_finderOf_4 ?_
      refine lv_icmp_ge (tgt := 46) hx hb dX7_finderOf_7 (by decide) (fun c7 => ?_) (fun c7 => ?_)
      · have c7n : k ≤ i := ft_leN (by omega) (by omega) c7
        refine lv_iconst (v := (-1)) hx hb dX7_finderOf_46 (by decide) ?_
        exact W.iret (v := (-1)) hx hb hr (fun t ht hW => ⟨(-1), rfl, (by show ((-1) : Int32) = ftFinder ro k tl x; exact (ftFst_none (P := fun i => ¬ ro 4 i = 2 ∧ ftNear tl (ro 0 i) x) (fun t ht => hno t (by omega))).symm), ht⟩) (fun _ h9 => absurd h9 List.not_mem_nil) dX7_finderOf_47
      · have c7n : i < k := ft_nleN (by omega) (by omega) c7
        refine lv_aload_n hx hb dX7_finderOf_10 rfl (lv_at hl 0 rfl) ?_
        refine va_get (D := D) (ci := 7) (v := .ref r4) (C := RX7) (T := TX7) (N := 10) hx hb hts (by decide +kernel) hown hK hP 0 rfl rfl 4 (by decide) (hts (.fieldLink RX7 24 "FiberTrace$Reading" "kinds" "[I") (by decide +kernel)) (fun _ h9 => h9) rfl dX7_finderOf_11 ?_
        refine lv_iload_n hx hb dX7_finderOf_14 rfl (lv_at hl 2 rfl) ?_
        refine ft_csi (r := ftAt 30 (ro 4) (nI i)) (va_runSN (As := [.ref r4, .int (nI i)]) (rest := []) ⟨hx, hb, hml, hown, hts⟩ (c_X10_at l D cI cS r4 30 (ro 4) (nI i) (by first | assumption | omega)) ⟨va_cnB 2 hts gX7_finderOf_X10_at_n40 rfl rfl rfl (hKK.2 _ (List.mem_of_getElem? (i := 22) rfl)) (hts (.initialized RX10) (by decide +kernel)) (by decide +kernel) ⟨Nat.le_of_ble_eq_true rfl, Nat.le_of_ble_eq_true rfl⟩, hts (.static yX10_at) (by decide +kernel), trivial⟩ (ft_preRO hP hKK [2] rfl) rfl rfl hl.1 rfl (lv_room (Nat.le_of_ble_eq_true rfl)) dX7_finderOf_15 ⟨Nat.le_of_ble_eq_true rfl, Nat.le_of_ble_eq_true rfl⟩) ?_
        refine ft_top (y := (ro 4) i) (ftAt_N (by omega) (by omega)) ?_
        refine lv_iconst (v := 2) hx hb dX7_finderOf_18 (by decide) ?_
        refine lv_icmp_eq (tgt := 40) hx hb dX7_finderOf_19 (by decide) (fun c19 => ?_) (fun c19 => ?_)
        · refine lv_iinc (v := nI (i + 1)) (lv' := [(2, .int (nI (i + 1))), (0, .ref a0), (1, .int x)]) hx hb dX7_finderOf_40 hl (k := 2) rfl (ft_inc i) (by decide) rfl (fun ls hl => ?_)
          refine lv_goto (tgt := 2) hx hb dX7_finderOf_43 (by decide) ?_
          exact ih2 (i + 1) (nI (i + 1))  (by omega) (by omega) (by intro t ht; rcases Nat.lt_succ_iff_lt_or_eq.mp ht with r | r; exact hno t r; subst r; first | exact (fun q => q.1 c19) | exact (fun q => c35 q.2)) (by first | rfl | assumption)  ls (lv_sub hl [1, 2, 0] rfl)
        · refine lv_aload_n hx hb dX7_finderOf_22 rfl (lv_at hl 0 rfl) ?_
          refine lv_aload_n hx hb dX7_finderOf_23 rfl (lv_at hl 0 rfl) ?_
          refine va_get (D := D) (ci := 7) (v := .ref r0) (C := RX7) (T := TX7) (N := 10) hx hb hts (by decide +kernel) hown hK hP 0 rfl rfl 0 (by decide) (hts (.fieldLink RX7 9 "FiberTrace$Reading" "begins" "[I") (by decide +kernel)) (fun _ h9 => h9) rfl dX7_finderOf_24 ?_
          refine lv_iload_n hx hb dX7_finderOf_27 rfl (lv_at hl 2 rfl) ?_
          refine ft_csi (r := ftAt 30 (ro 0) (nI i)) (va_runSN (As := [.ref r0, .int (nI i)]) (rest := [.ref a0]) ⟨hx, hb, hml, hown, hts⟩ (c_X10_at l D cI cS r0 30 (ro 0) (nI i) (by first | assumption | omega)) ⟨va_cnB 2 hts gX7_finderOf_X10_at_n40 rfl rfl rfl (hKK.2 _ (List.mem_of_getElem? (i := 22) rfl)) (hts (.initialized RX10) (by decide +kernel)) (by decide +kernel) ⟨Nat.le_of_ble_eq_true rfl, Nat.le_of_ble_eq_true rfl⟩, hts (.static yX10_at) (by decide +kernel), trivial⟩ (ft_preRO hP hKK [1] rfl) rfl rfl hl.1 rfl (lv_room (Nat.le_of_ble_eq_true rfl)) dX7_finderOf_28 ⟨Nat.le_of_ble_eq_true rfl, Nat.le_of_ble_eq_true rfl⟩) ?_
          refine ft_top (y := (ro 0) i) (ftAt_N (by omega) (by omega)) ?_
          refine lv_iload_n hx hb dX7_finderOf_31 rfl (lv_at hl 1 rfl) ?_
          refine ft_csi (r := ftB (ftNear tl ((ro 0) i) x)) (va_runV (C := RX7) (As := [.int ((ro 0) i), .int x]) (rest := []) ⟨hx, hb, hml, hown, hts⟩ (c_X7_isNear l D cI cS a0 r0 r1 r2 r3 r4 r5 r6 r7 k tl ((ro 0) i) x) (cwV 2 hts gX7_finderOf_X7_isNear rfl rfl rfl (by decide +kernel) ⟨Nat.le_of_ble_eq_true rfl, Nat.le_of_ble_eq_true rfl⟩) (ft_preROV (ci := 7) (q0 := 0) hP hKK [0] rfl rfl rfl) rfl rfl hl.1 rfl (lv_room (Nat.le_of_ble_eq_true rfl)) dX7_finderOf_32 ⟨Nat.le_of_ble_eq_true rfl, Nat.le_of_ble_eq_true rfl⟩) ?_
          refine lv_if_eq (tgt := 40) hx hb dX7_finderOf_35 (by decide) (fun c35 => ?_) (fun c35 => ?_)
          · replace c35 := ftB_eq c35
            refine lv_iinc (v := nI (i + 1)) (lv' := [(2, .int (nI (i + 1))), (0, .ref a0), (1, .int x)]) hx hb dX7_finderOf_40 hl (k := 2) rfl (ft_inc i) (by decide) rfl (fun ls hl => ?_)
            refine lv_goto (tgt := 2) hx hb dX7_finderOf_43 (by decide) ?_
            exact ih2 (i + 1) (nI (i + 1))  (by omega) (by omega) (by intro t ht; rcases Nat.lt_succ_iff_lt_or_eq.mp ht with r | r; exact hno t r; subst r; first | exact (fun q => q.1 c19) | exact (fun q => c35 q.2)) (by first | rfl | assumption)  ls (lv_sub hl [1, 2, 0] rfl)
          · replace c35 := ftB_ne c35
            refine lv_iload_n hx hb dX7_finderOf_38 rfl (lv_at hl 2 rfl) ?_
            exact W.iret (v := nI i) hx hb hr (fun t ht hW => ⟨nI i, rfl, (by show (nI i : Int32) = ftFinder ro k tl x; exact (ftFst_some (P := fun i => ¬ ro 4 i = 2 ∧ ftNear tl (ro 0 i) x) (by omega) ⟨c19, c35⟩ hno k (by omega)).symm), ht⟩) (fun _ h9 => absurd h9 List.not_mem_nil) dX7_finderOf_39
  exact lp2 _ 0 0  (Nat.lt_succ_self _) (by omega) (by intro t ht; omega) (by rfl) ls (lv_sub hl [1, 2, 0] rfl)
set_option maxHeartbeats 4000000 in
set_option maxRecDepth 100000 in
theorem c_X7_findingOf (l : Launch) (D : va_G) (cI cS : ClassId) (a0 r0 r1 r2 r3 r4 r5 r6 r7 k : Nat) (tl : Int32) (ro : Nat → Nat → Int32) (b0 : Nat) (len att en : Int32) (n bk bp bl br : Nat) (kf pf : Nat → Int32) (pt : Nat) (hk : k ≤ 30) (hpt : pt < 10) : Met l yX7_findingOf wsX7_findingOf ({ frames := 3, cells := 0, slots := 0, locals := 74 }) (ftRO D cI cS [.ref a0, .ref b0, .int (nI pt)] [(a0, .inr (7, [.ref r0, .ref r1, .ref r2, .ref r3, .ref r4, .ref r5, .ref r6, .ref r7, .int (nI k), .int tl])), (r0, .inl (cI, 30, .inl (ro 0))), (r1, .inl (cI, 30, .inl (ro 1))), (r4, .inl (cI, 30, .inl (ro 4))), (b0, .inr (4, [.int len, .int att, .int en, .int (nI n), .ref bk, .ref bp, .ref bl, .ref br])), (bk, .inl (cI, 10, .inl kf)), (bp, .inl (cI, 10, .inl pf))]) (vp_Si (fun o9 => o9 = ftFinding ro k tl (pf pt) (kf pt))) 0 0 (fun _ => False) := by
  refine Met.ofW (cc := cX7_findingOf) (maxL := 4) (ret := (some .int)) (by decide) rfl ?_
  intro p e s m args below meth c s₁ B hml hv
  obtain ⟨rfl, hP, hKK⟩ := hv
  have hK := hKK.1
  have hx := B.exec
  have hb := B.bytes
  have hr := B.returns
  have hts := atoms_spec (ws := wsX7_findingOf) B.pre
  have hown : s.vm.findClass RX7 = some m.cls := findClass_of_methodNamed B.named
  have hlocks := B.notSynchronized
  have hP : va_P D vwCl [(a0, .inr (7, [.ref r0, .ref r1, .ref r2, .ref r3, .ref r4, .ref r5, .ref r6, .ref r7, .int (nI k), .int tl])), (r0, .inl (cI, 30, .inl (ro 0))), (r1, .inl (cI, 30, .inl (ro 1))), (r4, .inl (cI, 30, .inl (ro 4))), (b0, .inr (4, [.int len, .int att, .int en, .int (nI n), .ref bk, .ref bp, .ref bl, .ref br])), (bk, .inl (cI, 10, .inl kf)), (bp, .inl (cI, 10, .inl pf))] s.heap := hP
  have hl := lv_entry ([.ref a0, .ref b0, .int (nI pt)]) (n := 4) (Nat.le_of_ble_eq_true rfl)
  rw [lg_entry_eq]
  generalize (lg_sl ([.ref a0, .ref b0, .int (nI pt)]) ++ List.replicate (4 - (lg_sl ([.ref a0, .ref b0, .int (nI pt)])).length) Slot.unset).toArray = ls at hl ⊢
  have hl : lv_has ls 4 [(0, .ref a0), (1, .ref b0), (2, .int (nI pt))] := hl
  refine lv_aload_n hx hb dX7_findingOf_0 rfl (lv_at hl 1 rfl) ?_
  refine va_get (D := D) (ci := 4) (v := .ref bp) (C := RX4) (T := TX4) (N := 8) hx hb hts (by decide +kernel) hown hK hP 4 rfl rfl 5 (by decide) (hts (.fieldLink RX7 88 "FiberTrace$Link" "places" "[I") (by decide +kernel)) (fun _ h9 => h9) rfl dX7_findingOf_1 ?_
  refine lv_iload_n hx hb dX7_findingOf_4 rfl (lv_at hl 2 rfl) ?_
  refine ft_csi (r := ftAt 10 pf (nI pt)) (va_runSN (As := [.ref bp, .int (nI pt)]) (rest := []) ⟨hx, hb, hml, hown, hts⟩ (c_X10_at l D cI cS bp 10 pf (nI pt) (by first | assumption | omega)) ⟨va_cnB 2 hts gX7_findingOf_X10_at_n40 rfl rfl rfl (hKK.2 _ (List.mem_of_getElem? (i := 22) rfl)) (hts (.initialized RX10) (by decide +kernel)) (by decide +kernel) ⟨Nat.le_of_ble_eq_true rfl, Nat.le_of_ble_eq_true rfl⟩, hts (.static yX10_at) (by decide +kernel), trivial⟩ (ft_preRO hP hKK [6] rfl) rfl rfl hl.1 rfl (lv_room (Nat.le_of_ble_eq_true rfl)) dX7_findingOf_5 ⟨Nat.le_of_ble_eq_true rfl, Nat.le_of_ble_eq_true rfl⟩) ?_
  refine ft_top (y := pf pt) (ftAt_N (by omega) (by omega)) ?_
  refine lv_istore_n (lv' := [(3, .int (pf pt)), (0, .ref a0), (1, .ref b0), (2, .int (nI pt))]) hx hb dX7_findingOf_8 rfl hl (by decide) rfl (fun ls hl => ?_)
  refine lv_aload_n hx hb dX7_findingOf_9 rfl (lv_at hl 2 rfl) ?_
  refine lv_iload_n hx hb dX7_findingOf_10 rfl (lv_at hl 3 rfl) ?_
  refine ft_csi (r := ftB (¬ kf pt = 2)) (va_runV (C := RX4) (As := [.int (nI pt)]) (rest := []) ⟨hx, hb, hml, hown, hts⟩ (c_X4_isJoint l D cI cS b0 len att en n bk bp bl br kf pt (by first | assumption | omega)) (cwV 1 hts gX7_findingOf_X4_isJoint rfl rfl rfl (by decide +kernel) ⟨Nat.le_of_ble_eq_true rfl, Nat.le_of_ble_eq_true rfl⟩) (ft_preROV (ci := 4) (q0 := 4) hP hKK [4, 5] rfl rfl rfl) rfl rfl hl.1 rfl (lv_room (Nat.le_of_ble_eq_true rfl)) dX7_findingOf_11 ⟨Nat.le_of_ble_eq_true rfl, Nat.le_of_ble_eq_true rfl⟩) ?_
  refine lv_if_ne (tgt := 19) hx hb dX7_findingOf_14 (by decide) (fun c14 => ?_) (fun c14 => ?_)
  · replace c14 := ftB_ne c14
    refine lv_aload_n hx hb dX7_findingOf_19 rfl (lv_at hl 1 rfl) ?_
    refine lv_iload_n hx hb dX7_findingOf_20 rfl (lv_at hl 0 rfl) ?_
    refine ft_csi (r := ftFinder ro k tl (pf pt)) (va_runV (C := RX7) (As := [.int (pf pt)]) (rest := []) ⟨hx, hb, hml, hown, hts⟩ (c_X7_finderOf l D cI cS a0 r0 r1 r2 r3 r4 r5 r6 r7 k tl ro (pf pt) (by first | assumption | omega)) (cwV 1 hts gX7_findingOf_X7_finderOf rfl rfl rfl (by decide +kernel) ⟨Nat.le_of_ble_eq_true rfl, Nat.le_of_ble_eq_true rfl⟩) (ft_preROV (ci := 7) (q0 := 0) hP hKK [0, 1, 3] rfl rfl rfl) rfl rfl hl.1 rfl (lv_room (Nat.le_of_ble_eq_true rfl)) dX7_findingOf_21 ⟨Nat.le_of_ble_eq_true rfl, Nat.le_of_ble_eq_true rfl⟩) ?_
    refine lv_iconst (v := (-1)) hx hb dX7_findingOf_24 (by decide) ?_
    refine lv_icmp_eq (tgt := 30) hx hb dX7_findingOf_25 (by decide) (fun c25 => ?_) (fun c25 => ?_)
    · refine lv_aload_n hx hb dX7_findingOf_30 rfl (lv_at hl 1 rfl) ?_
      refine lv_iload_n hx hb dX7_findingOf_31 rfl (lv_at hl 0 rfl) ?_
      refine ft_csi (r := ftCov ro k (pf pt)) (va_runV (C := RX7) (As := [.int (pf pt)]) (rest := []) ⟨hx, hb, hml, hown, hts⟩ (c_X7_covering l D cI cS a0 r0 r1 r2 r3 r4 r5 r6 r7 k tl ro (pf pt) (by first | assumption | omega)) (cwV 1 hts gX7_findingOf_X7_covering rfl rfl rfl (by decide +kernel) ⟨Nat.le_of_ble_eq_true rfl, Nat.le_of_ble_eq_true rfl⟩) (ft_preROV (ci := 7) (q0 := 0) hP hKK [0, 1, 2] rfl rfl rfl) rfl rfl hl.1 rfl (lv_room (Nat.le_of_ble_eq_true rfl)) dX7_findingOf_32 ⟨Nat.le_of_ble_eq_true rfl, Nat.le_of_ble_eq_true rfl⟩) ?_
      refine lv_iconst (v := (-1)) hx hb dX7_findingOf_35 (by decide) ?_
      refine lv_icmp_eq (tgt := 43) hx hb dX7_findingOf_36 (by decide) (fun c36 => ?_) (fun c36 => ?_)
      · refine lv_iconst (v := 2) hx hb dX7_findingOf_43 (by decide) ?_
        exact W.iret (v := 2) hx hb hr (fun t ht hW => ⟨2, rfl, (by show (2 : Int32) = ftFinding ro k tl (pf pt) (kf pt); unfold ftFinding; first | (rw [if_pos (Classical.not_not.mp c14)]; done) | (rw [if_neg c14, if_neg c25]; done) | (rw [if_neg c14, if_pos c25, if_pos c36]; done) | (rw [if_neg c14, if_pos c25, if_neg c36]; done)), ht⟩) (fun _ h9 => absurd h9 List.not_mem_nil) dX7_findingOf_44
      · refine lv_iconst (v := 1) hx hb dX7_findingOf_39 (by decide) ?_
        refine lv_goto (tgt := 44) hx hb dX7_findingOf_40 (by decide) ?_
        exact W.iret (v := 1) hx hb hr (fun t ht hW => ⟨1, rfl, (by show (1 : Int32) = ftFinding ro k tl (pf pt) (kf pt); unfold ftFinding; first | (rw [if_pos (Classical.not_not.mp c14)]; done) | (rw [if_neg c14, if_neg c25]; done) | (rw [if_neg c14, if_pos c25, if_pos c36]; done) | (rw [if_neg c14, if_pos c25, if_neg c36]; done)), ht⟩) (fun _ h9 => absurd h9 List.not_mem_nil) dX7_findingOf_44
    · refine lv_iconst (v := 0) hx hb dX7_findingOf_28 (by decide) ?_
      exact W.iret (v := 0) hx hb hr (fun t ht hW => ⟨0, rfl, (by show (0 : Int32) = ftFinding ro k tl (pf pt) (kf pt); unfold ftFinding; first | (rw [if_pos (Classical.not_not.mp c14)]; done) | (rw [if_neg c14, if_neg c25]; done) | (rw [if_neg c14, if_pos c25, if_pos c36]; done) | (rw [if_neg c14, if_pos c25, if_neg c36]; done)), ht⟩) (fun _ h9 => absurd h9 List.not_mem_nil) dX7_findingOf_29
  · replace c14 := ftB_eq c14
    refine lv_iconst (v := 2) hx hb dX7_findingOf_17 (by decide) ?_
    exact W.iret (v := 2) hx hb hr (fun t ht hW => ⟨2, rfl, (by show (2 : Int32) = ftFinding ro k tl (pf pt) (kf pt); unfold ftFinding; first | (rw [if_pos (Classical.not_not.mp c14)]; done) | (rw [if_neg c14, if_neg c25]; done) | (rw [if_neg c14, if_pos c25, if_pos c36]; done) | (rw [if_neg c14, if_pos c25, if_neg c36]; done)), ht⟩) (fun _ h9 => absurd h9 List.not_mem_nil) dX7_findingOf_18
set_option maxHeartbeats 4000000 in
set_option maxRecDepth 100000 in
theorem c_X7_witnessOf (l : Launch) (D : va_G) (cI cS : ClassId) (a0 r0 r1 r2 r3 r4 r5 r6 r7 k : Nat) (tl : Int32) (ro : Nat → Nat → Int32) (b0 : Nat) (len att en : Int32) (n bk bp bl br : Nat) (kf pf : Nat → Int32) (pt : Nat) (hk : k ≤ 30) (hpt : pt < 10) : Met l yX7_witnessOf wsX7_witnessOf ({ frames := 4, cells := 0, slots := 0, locals := 97 }) (ftRO D cI cS [.ref a0, .ref b0, .int (nI pt)] [(a0, .inr (7, [.ref r0, .ref r1, .ref r2, .ref r3, .ref r4, .ref r5, .ref r6, .ref r7, .int (nI k), .int tl])), (r0, .inl (cI, 30, .inl (ro 0))), (r1, .inl (cI, 30, .inl (ro 1))), (r4, .inl (cI, 30, .inl (ro 4))), (b0, .inr (4, [.int len, .int att, .int en, .int (nI n), .ref bk, .ref bp, .ref bl, .ref br])), (bk, .inl (cI, 10, .inl kf)), (bp, .inl (cI, 10, .inl pf))]) (vp_Si (fun o9 => o9 = ftWitness ro k tl (pf pt) (kf pt))) 0 0 (fun _ => False) := by
  refine Met.ofW (cc := cX7_witnessOf) (maxL := 4) (ret := (some .int)) (by decide) rfl ?_
  intro p e s m args below meth c s₁ B hml hv
  obtain ⟨rfl, hP, hKK⟩ := hv
  have hK := hKK.1
  have hx := B.exec
  have hb := B.bytes
  have hr := B.returns
  have hts := atoms_spec (ws := wsX7_witnessOf) B.pre
  have hown : s.vm.findClass RX7 = some m.cls := findClass_of_methodNamed B.named
  have hlocks := B.notSynchronized
  have hP : va_P D vwCl [(a0, .inr (7, [.ref r0, .ref r1, .ref r2, .ref r3, .ref r4, .ref r5, .ref r6, .ref r7, .int (nI k), .int tl])), (r0, .inl (cI, 30, .inl (ro 0))), (r1, .inl (cI, 30, .inl (ro 1))), (r4, .inl (cI, 30, .inl (ro 4))), (b0, .inr (4, [.int len, .int att, .int en, .int (nI n), .ref bk, .ref bp, .ref bl, .ref br])), (bk, .inl (cI, 10, .inl kf)), (bp, .inl (cI, 10, .inl pf))] s.heap := hP
  have hl := lv_entry ([.ref a0, .ref b0, .int (nI pt)]) (n := 4) (Nat.le_of_ble_eq_true rfl)
  rw [lg_entry_eq]
  generalize (lg_sl ([.ref a0, .ref b0, .int (nI pt)]) ++ List.replicate (4 - (lg_sl ([.ref a0, .ref b0, .int (nI pt)])).length) Slot.unset).toArray = ls at hl ⊢
  have hl : lv_has ls 4 [(0, .ref a0), (1, .ref b0), (2, .int (nI pt))] := hl
  refine lv_aload_n hx hb dX7_witnessOf_0 rfl (lv_at hl 1 rfl) ?_
  refine va_get (D := D) (ci := 4) (v := .ref bp) (C := RX4) (T := TX4) (N := 8) hx hb hts (by decide +kernel) hown hK hP 4 rfl rfl 5 (by decide) (hts (.fieldLink RX7 88 "FiberTrace$Link" "places" "[I") (by decide +kernel)) (fun _ h9 => h9) rfl dX7_witnessOf_1 ?_
  refine lv_iload_n hx hb dX7_witnessOf_4 rfl (lv_at hl 2 rfl) ?_
  refine ft_csi (r := ftAt 10 pf (nI pt)) (va_runSN (As := [.ref bp, .int (nI pt)]) (rest := []) ⟨hx, hb, hml, hown, hts⟩ (c_X10_at l D cI cS bp 10 pf (nI pt) (by first | assumption | omega)) ⟨va_cnB 2 hts gX7_witnessOf_X10_at_n40 rfl rfl rfl (hKK.2 _ (List.mem_of_getElem? (i := 22) rfl)) (hts (.initialized RX10) (by decide +kernel)) (by decide +kernel) ⟨Nat.le_of_ble_eq_true rfl, Nat.le_of_ble_eq_true rfl⟩, hts (.static yX10_at) (by decide +kernel), trivial⟩ (ft_preRO hP hKK [6] rfl) rfl rfl hl.1 rfl (lv_room (Nat.le_of_ble_eq_true rfl)) dX7_witnessOf_5 ⟨Nat.le_of_ble_eq_true rfl, Nat.le_of_ble_eq_true rfl⟩) ?_
  refine ft_top (y := pf pt) (ftAt_N (by omega) (by omega)) ?_
  refine lv_istore_n (lv' := [(3, .int (pf pt)), (0, .ref a0), (1, .ref b0), (2, .int (nI pt))]) hx hb dX7_witnessOf_8 rfl hl (by decide) rfl (fun ls hl => ?_)
  refine lv_aload_n hx hb dX7_witnessOf_9 rfl (lv_at hl 1 rfl) ?_
  refine lv_aload_n hx hb dX7_witnessOf_10 rfl (lv_at hl 2 rfl) ?_
  refine lv_iload_n hx hb dX7_witnessOf_11 rfl (lv_at hl 3 rfl) ?_
  refine ft_csi (r := ftFinding ro k tl (pf pt) (kf pt)) (va_runV (C := RX7) (As := [.ref b0, .int (nI pt)]) (rest := []) ⟨hx, hb, hml, hown, hts⟩ (c_X7_findingOf l D cI cS a0 r0 r1 r2 r3 r4 r5 r6 r7 k tl ro b0 len att en n bk bp bl br kf pf pt (by first | assumption | omega) (by first | assumption | omega)) (cwV 2 hts gX7_witnessOf_X7_findingOf rfl rfl rfl (by decide +kernel) ⟨Nat.le_of_ble_eq_true rfl, Nat.le_of_ble_eq_true rfl⟩) (ft_preROV (ci := 7) (q0 := 0) hP hKK [0, 1, 2, 3, 4, 5, 6] rfl rfl rfl) rfl rfl hl.1 rfl (lv_room (Nat.le_of_ble_eq_true rfl)) dX7_witnessOf_12 ⟨Nat.le_of_ble_eq_true rfl, Nat.le_of_ble_eq_true rfl⟩) ?_
  by_cases c15_0 : (ftFinding ro k tl (pf pt) (kf pt)) = 0
  · refine lv_lookup (off := 25) (tgt := 40) hx hb dX7_witnessOf_15 (by decide) (by rw [c15_0]; decide) (by decide) ?_
    refine lv_aload_n hx hb dX7_witnessOf_40 rfl (lv_at hl 1 rfl) ?_
    refine lv_iload_n hx hb dX7_witnessOf_41 rfl (lv_at hl 0 rfl) ?_
    refine ft_csi (r := ftFinder ro k tl (pf pt)) (va_runV (C := RX7) (As := [.int (pf pt)]) (rest := []) ⟨hx, hb, hml, hown, hts⟩ (c_X7_finderOf l D cI cS a0 r0 r1 r2 r3 r4 r5 r6 r7 k tl ro (pf pt) (by first | assumption | omega)) (cwV 1 hts gX7_witnessOf_X7_finderOf rfl rfl rfl (by decide +kernel) ⟨Nat.le_of_ble_eq_true rfl, Nat.le_of_ble_eq_true rfl⟩) (ft_preROV (ci := 7) (q0 := 0) hP hKK [0, 1, 3] rfl rfl rfl) rfl rfl hl.1 rfl (lv_room (Nat.le_of_ble_eq_true rfl)) dX7_witnessOf_42 ⟨Nat.le_of_ble_eq_true rfl, Nat.le_of_ble_eq_true rfl⟩) ?_
    exact W.iret (v := ftFinder ro k tl (pf pt)) hx hb hr (fun t ht hW => ⟨ftFinder ro k tl (pf pt), rfl, (by show (ftFinder ro k tl (pf pt) : Int32) = ftWitness ro k tl (pf pt) (kf pt); unfold ftWitness; first | (rw [if_pos c15_0]; done) | (rw [if_neg c15_0, if_pos c15_1]; done) | (rw [if_neg c15_0, if_neg c15_1]; done)), ht⟩) (fun _ h9 => absurd h9 List.not_mem_nil) dX7_witnessOf_45
  by_cases c15_1 : (ftFinding ro k tl (pf pt) (kf pt)) = 1
  · refine lv_lookup (off := 31) (tgt := 46) hx hb dX7_witnessOf_15 (by decide) (by rw [c15_1]; decide) (by decide) ?_
    refine lv_aload_n hx hb dX7_witnessOf_46 rfl (lv_at hl 1 rfl) ?_
    refine lv_iload_n hx hb dX7_witnessOf_47 rfl (lv_at hl 0 rfl) ?_
    refine ft_csi (r := ftCov ro k (pf pt)) (va_runV (C := RX7) (As := [.int (pf pt)]) (rest := []) ⟨hx, hb, hml, hown, hts⟩ (c_X7_covering l D cI cS a0 r0 r1 r2 r3 r4 r5 r6 r7 k tl ro (pf pt) (by first | assumption | omega)) (cwV 1 hts gX7_witnessOf_X7_covering rfl rfl rfl (by decide +kernel) ⟨Nat.le_of_ble_eq_true rfl, Nat.le_of_ble_eq_true rfl⟩) (ft_preROV (ci := 7) (q0 := 0) hP hKK [0, 1, 2] rfl rfl rfl) rfl rfl hl.1 rfl (lv_room (Nat.le_of_ble_eq_true rfl)) dX7_witnessOf_48 ⟨Nat.le_of_ble_eq_true rfl, Nat.le_of_ble_eq_true rfl⟩) ?_
    exact W.iret (v := ftCov ro k (pf pt)) hx hb hr (fun t ht hW => ⟨ftCov ro k (pf pt), rfl, (by show (ftCov ro k (pf pt) : Int32) = ftWitness ro k tl (pf pt) (kf pt); unfold ftWitness; first | (rw [if_pos c15_0]; done) | (rw [if_neg c15_0, if_pos c15_1]; done) | (rw [if_neg c15_0, if_neg c15_1]; done)), ht⟩) (fun _ h9 => absurd h9 List.not_mem_nil) dX7_witnessOf_51
  have c15_0i := lv_neT (a := 0) c15_0 (by decide)
  have c15_1i := lv_neT (a := 1) c15_1 (by decide)
  refine lv_lookup (off := 37) (tgt := 52) hx hb dX7_witnessOf_15 (by decide) (by simp [Op.lookupswitch.offset, c15_0i, Ne.symm c15_0i, c15_1i, Ne.symm c15_1i]) (by decide) ?_
  refine lv_iconst (v := (-1)) hx hb dX7_witnessOf_52 (by decide) ?_
  exact W.iret (v := (-1)) hx hb hr (fun t ht hW => ⟨(-1), rfl, (by show ((-1) : Int32) = ftWitness ro k tl (pf pt) (kf pt); unfold ftWitness; first | (rw [if_pos c15_0]; done) | (rw [if_neg c15_0, if_pos c15_1]; done) | (rw [if_neg c15_0, if_neg c15_1]; done)), ht⟩) (fun _ h9 => absurd h9 List.not_mem_nil) dX7_witnessOf_53
set_option maxHeartbeats 4000000 in
set_option maxRecDepth 100000 in
theorem c_X7_countFindings (l : Launch) (D : va_G) (cI cS : ClassId) (a0 r0 r1 r2 r3 r4 r5 r6 r7 k : Nat) (tl : Int32) (ro : Nat → Nat → Int32) (b0 : Nat) (len att en : Int32) (n bk bp bl br : Nat) (kf pf : Nat → Int32) (fd : Int32) (hk : k ≤ 30) (hn : n ≤ 10) : Met l yX7_countFindings wsX7_countFindings ({ frames := 4, cells := 0, slots := 0, locals := 97 }) (ftRO D cI cS [.ref a0, .ref b0, .int fd] [(a0, .inr (7, [.ref r0, .ref r1, .ref r2, .ref r3, .ref r4, .ref r5, .ref r6, .ref r7, .int (nI k), .int tl])), (r0, .inl (cI, 30, .inl (ro 0))), (r1, .inl (cI, 30, .inl (ro 1))), (r4, .inl (cI, 30, .inl (ro 4))), (b0, .inr (4, [.int len, .int att, .int en, .int (nI n), .ref bk, .ref bp, .ref bl, .ref br])), (bk, .inl (cI, 10, .inl kf)), (bp, .inl (cI, 10, .inl pf))]) (vp_Si (fun o9 => o9 = ftFindings ro k tl kf pf fd n)) 0 0 (fun _ => False) := by
  refine Met.ofW (cc := cX7_countFindings) (maxL := 5) (ret := (some .int)) (by decide) rfl ?_
  intro p e s m args below meth c s₁ B hml hv
  obtain ⟨rfl, hP, hKK⟩ := hv
  have hK := hKK.1
  have hx := B.exec
  have hb := B.bytes
  have hr := B.returns
  have hts := atoms_spec (ws := wsX7_countFindings) B.pre
  have hown : s.vm.findClass RX7 = some m.cls := findClass_of_methodNamed B.named
  have hlocks := B.notSynchronized
  have hP : va_P D vwCl [(a0, .inr (7, [.ref r0, .ref r1, .ref r2, .ref r3, .ref r4, .ref r5, .ref r6, .ref r7, .int (nI k), .int tl])), (r0, .inl (cI, 30, .inl (ro 0))), (r1, .inl (cI, 30, .inl (ro 1))), (r4, .inl (cI, 30, .inl (ro 4))), (b0, .inr (4, [.int len, .int att, .int en, .int (nI n), .ref bk, .ref bp, .ref bl, .ref br])), (bk, .inl (cI, 10, .inl kf)), (bp, .inl (cI, 10, .inl pf))] s.heap := hP
  have hl := lv_entry ([.ref a0, .ref b0, .int fd]) (n := 5) (Nat.le_of_ble_eq_true rfl)
  rw [lg_entry_eq]
  generalize (lg_sl ([.ref a0, .ref b0, .int fd]) ++ List.replicate (5 - (lg_sl ([.ref a0, .ref b0, .int fd])).length) Slot.unset).toArray = ls at hl ⊢
  have hl : lv_has ls 5 [(0, .ref a0), (1, .ref b0), (2, .int fd)] := hl
  refine lv_iconst (v := 0) hx hb dX7_countFindings_0 (by decide) ?_
  refine lv_istore_n (lv' := [(3, .int 0), (0, .ref a0), (1, .ref b0), (2, .int fd)]) hx hb dX7_countFindings_1 rfl hl (by decide) rfl (fun ls hl => ?_)
  refine lv_iconst (v := 0) hx hb dX7_countFindings_2 (by decide) ?_
  refine lv_istore (lv' := [(4, .int 0), (3, .int 0), (0, .ref a0), (1, .ref b0), (2, .int fd)]) hx hb dX7_countFindings_3 hl (by decide) rfl (fun ls hl => ?_)
  have lp5 : ∀ (n5 : Nat) (i : Nat) (x5_3 : Int32) (x5_4 : Int32), n - i < n5 → (i ≤ n) → x5_3 = ftFindings ro k tl kf pf fd i → x5_4 = nI i → ∀ ls : Array Slot, lv_has ls 5 [(0, .ref a0), (1, .ref b0), (2, .int fd), (3, .int x5_3), (4, .int x5_4)] → W p l e (headSpec wsX7_countFindings { frames := 4, cells := 0, slots := 0, locals := 97 }).room s m ([.ref a0, .ref b0, .int fd] : List Value).toArray below meth c s.heap [] 0 0 (MQ below (vp_Si (fun o9 => o9 = ftFindings ro k tl kf pf fd n)) ([.ref a0, .ref b0, .int fd] : List Value).toArray s 0 0 (fun _ => False)) (F0 m 5 ls []) := by
    intro n5
    induction n5 with
    | zero =>
      intro i x5_3 x5_4  hm5
      exact absurd hm5 (Nat.not_lt_zero _)
    | succ n5 ih5 =>
      intro i x5_3 x5_4  hm5 hin ex5_3 ex5_4  ls hl
      subst ex5_4
      refine lv_iload hx hb dX7_countFindings_5 (lv_at hl 4 rfl) ?_
      refine lv_aload_n hx hb dX7_countFindings_7 rfl (lv_at hl 1 rfl) ?_
      refine va_get (D := D) (ci := 4) (v := .int (nI n)) (C := RX4) (T := TX4) (N := 8) hx hb hts (by decide +kernel) hown hK hP 4 rfl rfl 3 (by decide) (hts (.fieldLink RX7 107 "FiberTrace$Link" "size" "I") (by decide +kernel)) (fun _ h9 => h9) rfl dX7_countFindings_8 ?_
      refine lv_icmp_ge (tgt := 48) hx hb dX7_countFindings_11 (by decide) (fun c11 => ?_) (fun c11 => ?_)
      · have c11n : n ≤ i := ft_leN (by omega) (by omega) c11
        refine lv_iload_n hx hb dX7_countFindings_48 rfl (lv_at hl 3 rfl) ?_
        exact W.iret (v := x5_3) hx hb hr (fun t ht hW => ⟨x5_3, rfl, (by show (x5_3 : Int32) = ftFindings ro k tl kf pf fd n; (obtain rfl : i = n := by omega); exact ex5_3), ht⟩) (fun _ h9 => absurd h9 List.not_mem_nil) dX7_countFindings_49
      · have c11n : i < n := ft_nleN (by omega) (by omega) c11
        refine lv_iload_n hx hb dX7_countFindings_14 rfl (lv_at hl 3 rfl) ?_
        refine lv_aload_n hx hb dX7_countFindings_15 rfl (lv_at hl 1 rfl) ?_
        refine lv_iload hx hb dX7_countFindings_16 (lv_at hl 4 rfl) ?_
        refine ft_csi (r := ftB (¬ kf i = 2)) (va_runV (C := RX4) (As := [.int (nI i)]) (rest := [.int x5_3]) ⟨hx, hb, hml, hown, hts⟩ (c_X4_isJoint l D cI cS b0 len att en n bk bp bl br kf i (by first | assumption | omega)) (cwV 1 hts gX7_countFindings_X4_isJoint rfl rfl rfl (by decide +kernel) ⟨Nat.le_of_ble_eq_true rfl, Nat.le_of_ble_eq_true rfl⟩) (ft_preROV (ci := 4) (q0 := 4) hP hKK [4, 5] rfl rfl rfl) rfl rfl hl.1 rfl (lv_room (Nat.le_of_ble_eq_true rfl)) dX7_countFindings_18 ⟨Nat.le_of_ble_eq_true rfl, Nat.le_of_ble_eq_true rfl⟩) ?_
        refine lv_if_eq (tgt := 39) hx hb dX7_countFindings_21 (by decide) (fun c21 => ?_) (fun c21 => ?_)
        · replace c21 := ftB_eq c21
          refine lv_iconst (v := 0) hx hb dX7_countFindings_39 (by decide) ?_
          refine lv_iadd hx hb dX7_countFindings_40 ?_
          refine lv_istore_n (lv' := [(3, .int (x5_3 + 0)), (0, .ref a0), (1, .ref b0), (2, .int fd), (4, .int (nI i))]) hx hb dX7_countFindings_41 rfl hl (by decide) rfl (fun ls hl => ?_)
          refine lv_iinc (v := nI (i + 1)) (lv' := [(4, .int (nI (i + 1))), (3, .int (x5_3 + 0)), (0, .ref a0), (1, .ref b0), (2, .int fd)]) hx hb dX7_countFindings_42 hl (k := 4) rfl (ft_inc i) (by decide) rfl (fun ls hl => ?_)
          refine lv_goto (tgt := 5) hx hb dX7_countFindings_45 (by decide) ?_
          exact ih5 (i + 1) (x5_3 + 0) (nI (i + 1))  (by omega) (by omega) (by first | exact ftCount_t ex5_3 ⟨c21, c32⟩ | exact ftCount_f ex5_3 (fun q => c32 q.2) | exact ftCount_f ex5_3 (fun q => c21 q.1)) (by first | rfl | assumption)  ls (lv_sub hl [2, 3, 4, 1, 0] rfl)
        · replace c21 := ftB_ne c21
          refine lv_aload_n hx hb dX7_countFindings_24 rfl (lv_at hl 0 rfl) ?_
          refine lv_aload_n hx hb dX7_countFindings_25 rfl (lv_at hl 1 rfl) ?_
          refine lv_iload hx hb dX7_countFindings_26 (lv_at hl 4 rfl) ?_
          refine ft_csi (r := ftFinding ro k tl (pf i) (kf i)) (va_runV (C := RX7) (As := [.ref b0, .int (nI i)]) (rest := [.int x5_3]) ⟨hx, hb, hml, hown, hts⟩ (c_X7_findingOf l D cI cS a0 r0 r1 r2 r3 r4 r5 r6 r7 k tl ro b0 len att en n bk bp bl br kf pf i (by first | assumption | omega) (by first | assumption | omega)) (cwV 2 hts gX7_countFindings_X7_findingOf rfl rfl rfl (by decide +kernel) ⟨Nat.le_of_ble_eq_true rfl, Nat.le_of_ble_eq_true rfl⟩) (ft_preROV (ci := 7) (q0 := 0) hP hKK [0, 1, 2, 3, 4, 5, 6] rfl rfl rfl) rfl rfl hl.1 rfl (lv_room (Nat.le_of_ble_eq_true rfl)) dX7_countFindings_28 ⟨Nat.le_of_ble_eq_true rfl, Nat.le_of_ble_eq_true rfl⟩) ?_
          refine lv_iload_n hx hb dX7_countFindings_31 rfl (lv_at hl 2 rfl) ?_
          refine lv_icmp_ne (tgt := 39) hx hb dX7_countFindings_32 (by decide) (fun c32 => ?_) (fun c32 => ?_)
          · refine lv_iconst (v := 0) hx hb dX7_countFindings_39 (by decide) ?_
            refine lv_iadd hx hb dX7_countFindings_40 ?_
            refine lv_istore_n (lv' := [(3, .int (x5_3 + 0)), (0, .ref a0), (1, .ref b0), (2, .int fd), (4, .int (nI i))]) hx hb dX7_countFindings_41 rfl hl (by decide) rfl (fun ls hl => ?_)
            refine lv_iinc (v := nI (i + 1)) (lv' := [(4, .int (nI (i + 1))), (3, .int (x5_3 + 0)), (0, .ref a0), (1, .ref b0), (2, .int fd)]) hx hb dX7_countFindings_42 hl (k := 4) rfl (ft_inc i) (by decide) rfl (fun ls hl => ?_)
            refine lv_goto (tgt := 5) hx hb dX7_countFindings_45 (by decide) ?_
            exact ih5 (i + 1) (x5_3 + 0) (nI (i + 1))  (by omega) (by omega) (by first | exact ftCount_t ex5_3 ⟨c21, c32⟩ | exact ftCount_f ex5_3 (fun q => c32 q.2) | exact ftCount_f ex5_3 (fun q => c21 q.1)) (by first | rfl | assumption)  ls (lv_sub hl [2, 3, 4, 1, 0] rfl)
          · refine lv_iconst (v := 1) hx hb dX7_countFindings_35 (by decide) ?_
            refine lv_goto (tgt := 40) hx hb dX7_countFindings_36 (by decide) ?_
            refine lv_iadd hx hb dX7_countFindings_40 ?_
            refine lv_istore_n (lv' := [(3, .int (x5_3 + 1)), (0, .ref a0), (1, .ref b0), (2, .int fd), (4, .int (nI i))]) hx hb dX7_countFindings_41 rfl hl (by decide) rfl (fun ls hl => ?_)
            refine lv_iinc (v := nI (i + 1)) (lv' := [(4, .int (nI (i + 1))), (3, .int (x5_3 + 1)), (0, .ref a0), (1, .ref b0), (2, .int fd)]) hx hb dX7_countFindings_42 hl (k := 4) rfl (ft_inc i) (by decide) rfl (fun ls hl => ?_)
            refine lv_goto (tgt := 5) hx hb dX7_countFindings_45 (by decide) ?_
            exact ih5 (i + 1) (x5_3 + 1) (nI (i + 1))  (by omega) (by omega) (by first | exact ftCount_t ex5_3 ⟨c21, c32⟩ | exact ftCount_f ex5_3 (fun q => c32 q.2) | exact ftCount_f ex5_3 (fun q => c21 q.1)) (by first | rfl | assumption)  ls (lv_sub hl [2, 3, 4, 1, 0] rfl)
  exact lp5 _ 0 0 0  (Nat.lt_succ_self _) (by omega) (by rfl) (by rfl) ls (lv_sub hl [2, 3, 4, 1, 0] rfl)
set_option maxHeartbeats 4000000 in
set_option maxRecDepth 100000 in
theorem c_X7_findsAll (l : Launch) (D : va_G) (cI cS : ClassId) (a0 r0 r1 r2 r3 r4 r5 r6 r7 k : Nat) (tl : Int32) (ro : Nat → Nat → Int32) (b0 : Nat) (len att en : Int32) (n bk bp bl br : Nat) (kf pf : Nat → Int32) (hk : k ≤ 30) (hn : n ≤ 10) : Met l yX7_findsAll wsX7_findsAll ({ frames := 5, cells := 0, slots := 0, locals := 121 }) (ftRO D cI cS [.ref a0, .ref b0] [(a0, .inr (7, [.ref r0, .ref r1, .ref r2, .ref r3, .ref r4, .ref r5, .ref r6, .ref r7, .int (nI k), .int tl])), (r0, .inl (cI, 30, .inl (ro 0))), (r1, .inl (cI, 30, .inl (ro 1))), (r4, .inl (cI, 30, .inl (ro 4))), (b0, .inr (4, [.int len, .int att, .int en, .int (nI n), .ref bk, .ref bp, .ref bl, .ref br])), (bk, .inl (cI, 10, .inl kf)), (bp, .inl (cI, 10, .inl pf))]) (vp_Si (fun o9 => o9 = ftB (ftFindings ro k tl kf pf 1 n = 0 ∧ ftFindings ro k tl kf pf 2 n = 0))) 0 0 (fun _ => False) := by
  refine Met.ofW (cc := cX7_findsAll) (maxL := 2) (ret := (some .boolean)) (by decide) rfl ?_
  intro p e s m args below meth c s₁ B hml hv
  obtain ⟨rfl, hP, hKK⟩ := hv
  have hK := hKK.1
  have hx := B.exec
  have hb := B.bytes
  have hr := B.returns
  have hts := atoms_spec (ws := wsX7_findsAll) B.pre
  have hown : s.vm.findClass RX7 = some m.cls := findClass_of_methodNamed B.named
  have hlocks := B.notSynchronized
  have hP : va_P D vwCl [(a0, .inr (7, [.ref r0, .ref r1, .ref r2, .ref r3, .ref r4, .ref r5, .ref r6, .ref r7, .int (nI k), .int tl])), (r0, .inl (cI, 30, .inl (ro 0))), (r1, .inl (cI, 30, .inl (ro 1))), (r4, .inl (cI, 30, .inl (ro 4))), (b0, .inr (4, [.int len, .int att, .int en, .int (nI n), .ref bk, .ref bp, .ref bl, .ref br])), (bk, .inl (cI, 10, .inl kf)), (bp, .inl (cI, 10, .inl pf))] s.heap := hP
  have hl := lv_entry ([.ref a0, .ref b0]) (n := 2) (Nat.le_of_ble_eq_true rfl)
  rw [lg_entry_eq]
  generalize (lg_sl ([.ref a0, .ref b0]) ++ List.replicate (2 - (lg_sl ([.ref a0, .ref b0])).length) Slot.unset).toArray = ls at hl ⊢
  have hl : lv_has ls 2 [(0, .ref a0), (1, .ref b0)] := hl
  refine lv_aload_n hx hb dX7_findsAll_0 rfl (lv_at hl 0 rfl) ?_
  refine lv_aload_n hx hb dX7_findsAll_1 rfl (lv_at hl 1 rfl) ?_
  refine lv_iconst (v := 1) hx hb dX7_findsAll_2 (by decide) ?_
  refine ft_csi (r := ftFindings ro k tl kf pf 1 n) (va_runV (C := RX7) (As := [.ref b0, .int 1]) (rest := []) ⟨hx, hb, hml, hown, hts⟩ (c_X7_countFindings l D cI cS a0 r0 r1 r2 r3 r4 r5 r6 r7 k tl ro b0 len att en n bk bp bl br kf pf 1 (by first | assumption | omega) (by first | assumption | omega)) (cwV 2 hts gX7_findsAll_X7_countFindings rfl rfl rfl (by decide +kernel) ⟨Nat.le_of_ble_eq_true rfl, Nat.le_of_ble_eq_true rfl⟩) (ft_preROV (ci := 7) (q0 := 0) hP hKK [0, 1, 2, 3, 4, 5, 6] rfl rfl rfl) rfl rfl hl.1 rfl (lv_room (Nat.le_of_ble_eq_true rfl)) dX7_findsAll_3 ⟨Nat.le_of_ble_eq_true rfl, Nat.le_of_ble_eq_true rfl⟩) ?_
  refine lv_if_ne (tgt := 22) hx hb dX7_findsAll_6 (by decide) (fun c6 => ?_) (fun c6 => ?_)
  · refine lv_iconst (v := 0) hx hb dX7_findsAll_22 (by decide) ?_
    exact W.zret (v := 0) hx hb hr (by rfl) (fun t ht hW => ⟨0, rfl, (by show (0 : Int32) = ftB (ftFindings ro k tl kf pf 1 n = 0 ∧ ftFindings ro k tl kf pf 2 n = 0); first | exact (ftB_t ⟨c6, c15⟩).symm | exact (ftB_f (fun q => c15 q.2)).symm | exact (ftB_f (fun q => c6 q.1)).symm), ht⟩) (fun _ h9 => absurd h9 List.not_mem_nil) dX7_findsAll_23
  · refine lv_aload_n hx hb dX7_findsAll_9 rfl (lv_at hl 0 rfl) ?_
    refine lv_aload_n hx hb dX7_findsAll_10 rfl (lv_at hl 1 rfl) ?_
    refine lv_iconst (v := 2) hx hb dX7_findsAll_11 (by decide) ?_
    refine ft_csi (r := ftFindings ro k tl kf pf 2 n) (va_runV (C := RX7) (As := [.ref b0, .int 2]) (rest := []) ⟨hx, hb, hml, hown, hts⟩ (c_X7_countFindings l D cI cS a0 r0 r1 r2 r3 r4 r5 r6 r7 k tl ro b0 len att en n bk bp bl br kf pf 2 (by first | assumption | omega) (by first | assumption | omega)) (cwV 2 hts gX7_findsAll_X7_countFindings rfl rfl rfl (by decide +kernel) ⟨Nat.le_of_ble_eq_true rfl, Nat.le_of_ble_eq_true rfl⟩) (ft_preROV (ci := 7) (q0 := 0) hP hKK [0, 1, 2, 3, 4, 5, 6] rfl rfl rfl) rfl rfl hl.1 rfl (lv_room (Nat.le_of_ble_eq_true rfl)) dX7_findsAll_12 ⟨Nat.le_of_ble_eq_true rfl, Nat.le_of_ble_eq_true rfl⟩) ?_
    refine lv_if_ne (tgt := 22) hx hb dX7_findsAll_15 (by decide) (fun c15 => ?_) (fun c15 => ?_)
    · refine lv_iconst (v := 0) hx hb dX7_findsAll_22 (by decide) ?_
      exact W.zret (v := 0) hx hb hr (by rfl) (fun t ht hW => ⟨0, rfl, (by show (0 : Int32) = ftB (ftFindings ro k tl kf pf 1 n = 0 ∧ ftFindings ro k tl kf pf 2 n = 0); first | exact (ftB_t ⟨c6, c15⟩).symm | exact (ftB_f (fun q => c15 q.2)).symm | exact (ftB_f (fun q => c6 q.1)).symm), ht⟩) (fun _ h9 => absurd h9 List.not_mem_nil) dX7_findsAll_23
    · refine lv_iconst (v := 1) hx hb dX7_findsAll_18 (by decide) ?_
      refine lv_goto (tgt := 23) hx hb dX7_findsAll_19 (by decide) ?_
      exact W.zret (v := 1) hx hb hr (by rfl) (fun t ht hW => ⟨1, rfl, (by show (1 : Int32) = ftB (ftFindings ro k tl kf pf 1 n = 0 ∧ ftFindings ro k tl kf pf 2 n = 0); first | exact (ftB_t ⟨c6, c15⟩).symm | exact (ftB_f (fun q => c15 q.2)).symm | exact (ftB_f (fun q => c6 q.1)).symm), ht⟩) (fun _ h9 => absurd h9 List.not_mem_nil) dX7_findsAll_23
set_option maxHeartbeats 4000000 in
set_option maxRecDepth 100000 in
theorem c_X7_isNearJoint (l : Launch) (D : va_G) (cI cS : ClassId) (a0 r0 r1 r2 r3 r4 r5 r6 r7 k : Nat) (tl : Int32) (b0 : Nat) (len att en : Int32) (n bk bp bl br : Nat) (kf pf : Nat → Int32) (x : Int32) (hn : n ≤ 10) : Met l yX7_isNearJoint wsX7_isNearJoint ({ frames := 2, cells := 0, slots := 0, locals := 52 }) (ftRO D cI cS [.ref a0, .ref b0, .int x] [(a0, .inr (7, [.ref r0, .ref r1, .ref r2, .ref r3, .ref r4, .ref r5, .ref r6, .ref r7, .int (nI k), .int tl])), (b0, .inr (4, [.int len, .int att, .int en, .int (nI n), .ref bk, .ref bp, .ref bl, .ref br])), (bk, .inl (cI, 10, .inl kf)), (bp, .inl (cI, 10, .inl pf))]) (vp_Si (fun o9 => o9 = ftB (ftNearJ tl kf pf n x))) 0 0 (fun _ => False) := by
  refine Met.ofW (cc := cX7_isNearJoint) (maxL := 4) (ret := (some .boolean)) (by decide) rfl ?_
  intro p e s m args below meth c s₁ B hml hv
  obtain ⟨rfl, hP, hKK⟩ := hv
  have hK := hKK.1
  have hx := B.exec
  have hb := B.bytes
  have hr := B.returns
  have hts := atoms_spec (ws := wsX7_isNearJoint) B.pre
  have hown : s.vm.findClass RX7 = some m.cls := findClass_of_methodNamed B.named
  have hlocks := B.notSynchronized
  have hP : va_P D vwCl [(a0, .inr (7, [.ref r0, .ref r1, .ref r2, .ref r3, .ref r4, .ref r5, .ref r6, .ref r7, .int (nI k), .int tl])), (b0, .inr (4, [.int len, .int att, .int en, .int (nI n), .ref bk, .ref bp, .ref bl, .ref br])), (bk, .inl (cI, 10, .inl kf)), (bp, .inl (cI, 10, .inl pf))] s.heap := hP
  have hl := lv_entry ([.ref a0, .ref b0, .int x]) (n := 4) (Nat.le_of_ble_eq_true rfl)
  rw [lg_entry_eq]
  generalize (lg_sl ([.ref a0, .ref b0, .int x]) ++ List.replicate (4 - (lg_sl ([.ref a0, .ref b0, .int x])).length) Slot.unset).toArray = ls at hl ⊢
  have hl : lv_has ls 4 [(0, .ref a0), (1, .ref b0), (2, .int x)] := hl
  refine lv_iconst (v := 0) hx hb dX7_isNearJoint_0 (by decide) ?_
  refine lv_istore_n (lv' := [(3, .int 0), (0, .ref a0), (1, .ref b0), (2, .int x)]) hx hb dX7_isNearJoint_1 rfl hl (by decide) rfl (fun ls hl => ?_)
  have lp2 : ∀ (n2 : Nat) (i : Nat) (x2_3 : Int32), n - i < n2 → (i ≤ n) → (∀ t, t < i → ¬ (¬ kf t = 2 ∧ ftNear tl (pf t) x)) → x2_3 = nI i → ∀ ls : Array Slot, lv_has ls 4 [(0, .ref a0), (1, .ref b0), (2, .int x), (3, .int x2_3)] → W p l e (headSpec wsX7_isNearJoint { frames := 2, cells := 0, slots := 0, locals := 52 }).room s m ([.ref a0, .ref b0, .int x] : List Value).toArray below meth c s.heap [] 0 0 (MQ below (vp_Si (fun o9 => o9 = ftB (ftNearJ tl kf pf n x))) ([.ref a0, .ref b0, .int x] : List Value).toArray s 0 0 (fun _ => False)) (F0 m 2 ls []) := by
    intro n2
    induction n2 with
    | zero =>
      intro i x2_3  hm2
      exact absurd hm2 (Nat.not_lt_zero _)
    | succ n2 ih2 =>
      intro i x2_3  hm2 hin hno ex2_3  ls hl
      subst ex2_3
      refine lv_iload_n hx hb dX7_isNearJoint_2 rfl (lv_at hl 3 rfl) ?_
      refine lv_aload_n hx hb dX7_isNearJoint_3 rfl (lv_at hl 1 rfl) ?_
      refine va_get (D := D) (ci := 4) (v := .int (nI n)) (C := RX4) (T := TX4) (N := 8) hx hb hts (by decide +kernel) hown hK hP 1 rfl rfl 3 (by decide) (hts (.fieldLink RX7 107 "FiberTrace$Link" "size" "I") (by decide +kernel)) (fun _ h9 => h9) rfl dX7_isNearJoint_4 ?_
      refine lv_icmp_ge (tgt := 42) hx hb dX7_isNearJoint_7 (by decide) (fun c7 => ?_) (fun c7 => ?_)
      · have c7n : n ≤ i := ft_leN (by omega) (by omega) c7
        refine lv_iconst (v := 0) hx hb dX7_isNearJoint_42 (by decide) ?_
        exact W.zret (v := 0) hx hb hr (by rfl) (fun t ht hW => ⟨0, rfl, (by show (0 : Int32) = ftB (ftNearJ tl kf pf n x); exact (ftB_f (fun ⟨t, h1, h2⟩ => hno t (by omega) h2)).symm), ht⟩) (fun _ h9 => absurd h9 List.not_mem_nil) dX7_isNearJoint_43
      · have c7n : i < n := ft_nleN (by omega) (by omega) c7
        refine lv_aload_n hx hb dX7_isNearJoint_10 rfl (lv_at hl 1 rfl) ?_
        refine lv_iload_n hx hb dX7_isNearJoint_11 rfl (lv_at hl 3 rfl) ?_
        refine ft_csi (r := ftB (¬ kf i = 2)) (va_runV (C := RX4) (As := [.int (nI i)]) (rest := []) ⟨hx, hb, hml, hown, hts⟩ (c_X4_isJoint l D cI cS b0 len att en n bk bp bl br kf i (by first | assumption | omega)) (cwV 1 hts gX7_isNearJoint_X4_isJoint rfl rfl rfl (by decide +kernel) ⟨Nat.le_of_ble_eq_true rfl, Nat.le_of_ble_eq_true rfl⟩) (ft_preROV (ci := 4) (q0 := 1) hP hKK [1, 2] rfl rfl rfl) rfl rfl hl.1 rfl (lv_room (Nat.le_of_ble_eq_true rfl)) dX7_isNearJoint_12 ⟨Nat.le_of_ble_eq_true rfl, Nat.le_of_ble_eq_true rfl⟩) ?_
        refine lv_if_eq (tgt := 36) hx hb dX7_isNearJoint_15 (by decide) (fun c15 => ?_) (fun c15 => ?_)
        · replace c15 := ftB_eq c15
          refine lv_iinc (v := nI (i + 1)) (lv' := [(3, .int (nI (i + 1))), (0, .ref a0), (1, .ref b0), (2, .int x)]) hx hb dX7_isNearJoint_36 hl (k := 3) rfl (ft_inc i) (by decide) rfl (fun ls hl => ?_)
          refine lv_goto (tgt := 2) hx hb dX7_isNearJoint_39 (by decide) ?_
          exact ih2 (i + 1) (nI (i + 1))  (by omega) (by omega) (by intro t ht; rcases Nat.lt_succ_iff_lt_or_eq.mp ht with r | r; exact hno t r; subst r; first | exact (fun q => c31 q.2) | exact (fun q => c15 q.1)) (by first | rfl | assumption)  ls (lv_sub hl [1, 2, 3, 0] rfl)
        · replace c15 := ftB_ne c15
          refine lv_aload_n hx hb dX7_isNearJoint_18 rfl (lv_at hl 0 rfl) ?_
          refine lv_aload_n hx hb dX7_isNearJoint_19 rfl (lv_at hl 1 rfl) ?_
          refine va_get (D := D) (ci := 4) (v := .ref bp) (C := RX4) (T := TX4) (N := 8) hx hb hts (by decide +kernel) hown hK hP 1 rfl rfl 5 (by decide) (hts (.fieldLink RX7 88 "FiberTrace$Link" "places" "[I") (by decide +kernel)) (fun _ h9 => h9) rfl dX7_isNearJoint_20 ?_
          refine lv_iload_n hx hb dX7_isNearJoint_23 rfl (lv_at hl 3 rfl) ?_
          refine ft_csi (r := ftAt 10 pf (nI i)) (va_runSN (As := [.ref bp, .int (nI i)]) (rest := [.ref a0]) ⟨hx, hb, hml, hown, hts⟩ (c_X10_at l D cI cS bp 10 pf (nI i) (by first | assumption | omega)) ⟨va_cnB 2 hts gX7_isNearJoint_X10_at_n40 rfl rfl rfl (hKK.2 _ (List.mem_of_getElem? (i := 22) rfl)) (hts (.initialized RX10) (by decide +kernel)) (by decide +kernel) ⟨Nat.le_of_ble_eq_true rfl, Nat.le_of_ble_eq_true rfl⟩, hts (.static yX10_at) (by decide +kernel), trivial⟩ (ft_preRO hP hKK [3] rfl) rfl rfl hl.1 rfl (lv_room (Nat.le_of_ble_eq_true rfl)) dX7_isNearJoint_24 ⟨Nat.le_of_ble_eq_true rfl, Nat.le_of_ble_eq_true rfl⟩) ?_
          refine ft_top (y := pf i) (ftAt_N (by omega) (by omega)) ?_
          refine lv_iload_n hx hb dX7_isNearJoint_27 rfl (lv_at hl 2 rfl) ?_
          refine ft_csi (r := ftB (ftNear tl (pf i) x)) (va_runV (C := RX7) (As := [.int (pf i), .int x]) (rest := []) ⟨hx, hb, hml, hown, hts⟩ (c_X7_isNear l D cI cS a0 r0 r1 r2 r3 r4 r5 r6 r7 k tl (pf i) x) (cwV 2 hts gX7_isNearJoint_X7_isNear rfl rfl rfl (by decide +kernel) ⟨Nat.le_of_ble_eq_true rfl, Nat.le_of_ble_eq_true rfl⟩) (ft_preROV (ci := 7) (q0 := 0) hP hKK [0] rfl rfl rfl) rfl rfl hl.1 rfl (lv_room (Nat.le_of_ble_eq_true rfl)) dX7_isNearJoint_28 ⟨Nat.le_of_ble_eq_true rfl, Nat.le_of_ble_eq_true rfl⟩) ?_
          refine lv_if_eq (tgt := 36) hx hb dX7_isNearJoint_31 (by decide) (fun c31 => ?_) (fun c31 => ?_)
          · replace c31 := ftB_eq c31
            refine lv_iinc (v := nI (i + 1)) (lv' := [(3, .int (nI (i + 1))), (0, .ref a0), (1, .ref b0), (2, .int x)]) hx hb dX7_isNearJoint_36 hl (k := 3) rfl (ft_inc i) (by decide) rfl (fun ls hl => ?_)
            refine lv_goto (tgt := 2) hx hb dX7_isNearJoint_39 (by decide) ?_
            exact ih2 (i + 1) (nI (i + 1))  (by omega) (by omega) (by intro t ht; rcases Nat.lt_succ_iff_lt_or_eq.mp ht with r | r; exact hno t r; subst r; first | exact (fun q => c31 q.2) | exact (fun q => c15 q.1)) (by first | rfl | assumption)  ls (lv_sub hl [1, 2, 3, 0] rfl)
          · replace c31 := ftB_ne c31
            refine lv_iconst (v := 1) hx hb dX7_isNearJoint_34 (by decide) ?_
            exact W.zret (v := 1) hx hb hr (by rfl) (fun t ht hW => ⟨1, rfl, (by show (1 : Int32) = ftB (ftNearJ tl kf pf n x); exact (ftB_t ⟨i, by omega, c15, c31⟩).symm), ht⟩) (fun _ h9 => absurd h9 List.not_mem_nil) dX7_isNearJoint_35
  exact lp2 _ 0 0  (Nat.lt_succ_self _) (by omega) (by intro t ht; omega) (by rfl) ls (lv_sub hl [1, 2, 3, 0] rfl)
set_option maxHeartbeats 4000000 in
set_option maxRecDepth 100000 in
theorem c_X7_countUnexplained (l : Launch) (D : va_G) (cI cS : ClassId) (a0 r0 r1 r2 r3 r4 r5 r6 r7 k : Nat) (tl : Int32) (ro : Nat → Nat → Int32) (b0 : Nat) (len att en : Int32) (n bk bp bl br : Nat) (kf pf : Nat → Int32) (hk : k ≤ 30) (hn : n ≤ 10) : Met l yX7_countUnexplained wsX7_countUnexplained ({ frames := 3, cells := 0, slots := 0, locals := 75 }) (ftRO D cI cS [.ref a0, .ref b0] [(a0, .inr (7, [.ref r0, .ref r1, .ref r2, .ref r3, .ref r4, .ref r5, .ref r6, .ref r7, .int (nI k), .int tl])), (r0, .inl (cI, 30, .inl (ro 0))), (r4, .inl (cI, 30, .inl (ro 4))), (b0, .inr (4, [.int len, .int att, .int en, .int (nI n), .ref bk, .ref bp, .ref bl, .ref br])), (bk, .inl (cI, 10, .inl kf)), (bp, .inl (cI, 10, .inl pf))]) (vp_Si (fun o9 => o9 = ftStrange ro k tl kf pf n)) 0 0 (fun _ => False) := by
  refine Met.ofW (cc := cX7_countUnexplained) (maxL := 5) (ret := (some .int)) (by decide) rfl ?_
  intro p e s m args below meth c s₁ B hml hv
  obtain ⟨rfl, hP, hKK⟩ := hv
  have hK := hKK.1
  have hx := B.exec
  have hb := B.bytes
  have hr := B.returns
  have hts := atoms_spec (ws := wsX7_countUnexplained) B.pre
  have hown : s.vm.findClass RX7 = some m.cls := findClass_of_methodNamed B.named
  have hlocks := B.notSynchronized
  have hP : va_P D vwCl [(a0, .inr (7, [.ref r0, .ref r1, .ref r2, .ref r3, .ref r4, .ref r5, .ref r6, .ref r7, .int (nI k), .int tl])), (r0, .inl (cI, 30, .inl (ro 0))), (r4, .inl (cI, 30, .inl (ro 4))), (b0, .inr (4, [.int len, .int att, .int en, .int (nI n), .ref bk, .ref bp, .ref bl, .ref br])), (bk, .inl (cI, 10, .inl kf)), (bp, .inl (cI, 10, .inl pf))] s.heap := hP
  have hl := lv_entry ([.ref a0, .ref b0]) (n := 5) (Nat.le_of_ble_eq_true rfl)
  rw [lg_entry_eq]
  generalize (lg_sl ([.ref a0, .ref b0]) ++ List.replicate (5 - (lg_sl ([.ref a0, .ref b0])).length) Slot.unset).toArray = ls at hl ⊢
  have hl : lv_has ls 5 [(0, .ref a0), (1, .ref b0)] := hl
  refine lv_iconst (v := 0) hx hb dX7_countUnexplained_0 (by decide) ?_
  refine lv_istore_n (lv' := [(2, .int 0), (0, .ref a0), (1, .ref b0)]) hx hb dX7_countUnexplained_1 rfl hl (by decide) rfl (fun ls hl => ?_)
  refine lv_iconst (v := 0) hx hb dX7_countUnexplained_2 (by decide) ?_
  refine lv_istore_n (lv' := [(3, .int 0), (2, .int 0), (0, .ref a0), (1, .ref b0)]) hx hb dX7_countUnexplained_3 rfl hl (by decide) rfl (fun ls hl => ?_)
  have lp4 : ∀ (n4 : Nat) (i : Nat) (x4_2 : Int32) (x4_3 : Int32), k - i < n4 → (i ≤ k) → x4_2 = ftStrange ro i tl kf pf n → x4_3 = nI i → ∀ ls : Array Slot, lv_has ls 5 [(0, .ref a0), (1, .ref b0), (2, .int x4_2), (3, .int x4_3)] → W p l e (headSpec wsX7_countUnexplained { frames := 3, cells := 0, slots := 0, locals := 75 }).room s m ([.ref a0, .ref b0] : List Value).toArray below meth c s.heap [] 0 0 (MQ below (vp_Si (fun o9 => o9 = ftStrange ro k tl kf pf n)) ([.ref a0, .ref b0] : List Value).toArray s 0 0 (fun _ => False)) (F0 m 4 ls []) := by
    intro n4
    induction n4 with
    | zero =>
      intro i x4_2 x4_3  hm4
      exact absurd hm4 (Nat.not_lt_zero _)
    | succ n4 ih4 =>
      intro i x4_2 x4_3  hm4 hik ex4_2 ex4_3  ls hl
      subst ex4_3
      refine lv_iload_n hx hb dX7_countUnexplained_4 rfl (lv_at hl 3 rfl) ?_
      refine lv_aload_n hx hb dX7_countUnexplained_5 rfl (lv_at hl 0 rfl) ?_
      refine va_get (D := D) (ci := 7) (v := .int (nI k)) (C := RX7) (T := TX7) (N := 10) hx hb hts (by decide +kernel) hown hK hP 0 rfl rfl 8 (by decide) (hts (.fieldLink RX7 36 "FiberTrace$Reading" "size" "I") (by decide +kernel)) (fun _ h9 => h9) rfl dX7_countUnexplained_6 ?_
      refine lv_icmp_ge (tgt := 77) hx hb dX7_countUnexplained_9 (by decide) (fun c9 => ?_) (fun c9 => ?_)
      · have c9n : k ≤ i := ft_leN (by omega) (by omega) c9
        refine lv_iload_n hx hb dX7_countUnexplained_77 rfl (lv_at hl 2 rfl) ?_
        exact W.iret (v := x4_2) hx hb hr (fun t ht hW => ⟨x4_2, rfl, (by show (x4_2 : Int32) = ftStrange ro k tl kf pf n; (obtain rfl : i = k := by omega); exact ex4_2), ht⟩) (fun _ h9 => absurd h9 List.not_mem_nil) dX7_countUnexplained_78
      · have c9n : i < k := ft_nleN (by omega) (by omega) c9
        refine lv_aload_n hx hb dX7_countUnexplained_12 rfl (lv_at hl 0 rfl) ?_
        refine va_get (D := D) (ci := 7) (v := .ref r4) (C := RX7) (T := TX7) (N := 10) hx hb hts (by decide +kernel) hown hK hP 0 rfl rfl 4 (by decide) (hts (.fieldLink RX7 24 "FiberTrace$Reading" "kinds" "[I") (by decide +kernel)) (fun _ h9 => h9) rfl dX7_countUnexplained_13 ?_
        refine lv_iload_n hx hb dX7_countUnexplained_16 rfl (lv_at hl 3 rfl) ?_
        refine ft_csi (r := ftAt 30 (ro 4) (nI i)) (va_runSN (As := [.ref r4, .int (nI i)]) (rest := []) ⟨hx, hb, hml, hown, hts⟩ (c_X10_at l D cI cS r4 30 (ro 4) (nI i) (by first | assumption | omega)) ⟨va_cnB 2 hts gX7_countUnexplained_X10_at_n40 rfl rfl rfl (hKK.2 _ (List.mem_of_getElem? (i := 22) rfl)) (hts (.initialized RX10) (by decide +kernel)) (by decide +kernel) ⟨Nat.le_of_ble_eq_true rfl, Nat.le_of_ble_eq_true rfl⟩, hts (.static yX10_at) (by decide +kernel), trivial⟩ (ft_preRO hP hKK [2] rfl) rfl rfl hl.1 rfl (lv_room (Nat.le_of_ble_eq_true rfl)) dX7_countUnexplained_17 ⟨Nat.le_of_ble_eq_true rfl, Nat.le_of_ble_eq_true rfl⟩) ?_
        refine ft_top (y := (ro 4) i) (ftAt_N (by omega) (by omega)) ?_
        refine lv_if_eq (tgt := 35) hx hb dX7_countUnexplained_20 (by decide) (fun c20 => ?_) (fun c20 => ?_)
        · refine lv_iconst (v := 1) hx hb dX7_countUnexplained_35 (by decide) ?_
          refine lv_goto (tgt := 40) hx hb dX7_countUnexplained_36 (by decide) ?_
          refine lv_istore (lv' := [(4, .int 1), (0, .ref a0), (1, .ref b0), (2, .int x4_2), (3, .int (nI i))]) hx hb dX7_countUnexplained_40 hl (by decide) rfl (fun ls hl => ?_)
          refine lv_iload_n hx hb dX7_countUnexplained_42 rfl (lv_at hl 3 rfl) ?_
          refine lv_iload hx hb dX7_countUnexplained_43 (lv_at hl 0 rfl) ?_
          refine lv_if_eq (tgt := 68) hx hb dX7_countUnexplained_45 (by decide) (fun c45 => ?_) (fun c45 => ?_)
          · exact absurd c45 (by decide)
          · refine lv_aload_n hx hb dX7_countUnexplained_48 rfl (lv_at hl 1 rfl) ?_
            refine lv_aload_n hx hb dX7_countUnexplained_49 rfl (lv_at hl 2 rfl) ?_
            refine lv_aload_n hx hb dX7_countUnexplained_50 rfl (lv_at hl 1 rfl) ?_
            refine va_get (D := D) (ci := 7) (v := .ref r0) (C := RX7) (T := TX7) (N := 10) hx hb hts (by decide +kernel) hown hK hP 0 rfl rfl 0 (by decide) (hts (.fieldLink RX7 9 "FiberTrace$Reading" "begins" "[I") (by decide +kernel)) (fun _ h9 => h9) rfl dX7_countUnexplained_51 ?_
            refine lv_iload_n hx hb dX7_countUnexplained_54 rfl (lv_at hl 4 rfl) ?_
            refine ft_csi (r := ftAt 30 (ro 0) (nI i)) (va_runSN (As := [.ref r0, .int (nI i)]) (rest := [.ref b0, .ref a0, .int x4_2]) ⟨hx, hb, hml, hown, hts⟩ (c_X10_at l D cI cS r0 30 (ro 0) (nI i) (by first | assumption | omega)) ⟨va_cnB 2 hts gX7_countUnexplained_X10_at_n40 rfl rfl rfl (hKK.2 _ (List.mem_of_getElem? (i := 22) rfl)) (hts (.initialized RX10) (by decide +kernel)) (by decide +kernel) ⟨Nat.le_of_ble_eq_true rfl, Nat.le_of_ble_eq_true rfl⟩, hts (.static yX10_at) (by decide +kernel), trivial⟩ (ft_preRO hP hKK [1] rfl) rfl rfl hl.1 rfl (lv_room (Nat.le_of_ble_eq_true rfl)) dX7_countUnexplained_55 ⟨Nat.le_of_ble_eq_true rfl, Nat.le_of_ble_eq_true rfl⟩) ?_
            refine ft_top (y := (ro 0) i) (ftAt_N (by omega) (by omega)) ?_
            refine ft_csi (r := ftB (ftNearJ tl kf pf n ((ro 0) i))) (va_runV (C := RX7) (As := [.ref b0, .int ((ro 0) i)]) (rest := [.int x4_2]) ⟨hx, hb, hml, hown, hts⟩ (c_X7_isNearJoint l D cI cS a0 r0 r1 r2 r3 r4 r5 r6 r7 k tl b0 len att en n bk bp bl br kf pf ((ro 0) i) (by first | assumption | omega)) (cwV 2 hts gX7_countUnexplained_X7_isNearJoint rfl rfl rfl (by decide +kernel) ⟨Nat.le_of_ble_eq_true rfl, Nat.le_of_ble_eq_true rfl⟩) (ft_preROV (ci := 7) (q0 := 0) hP hKK [0, 3, 4, 5] rfl rfl rfl) rfl rfl hl.1 rfl (lv_room (Nat.le_of_ble_eq_true rfl)) dX7_countUnexplained_58 ⟨Nat.le_of_ble_eq_true rfl, Nat.le_of_ble_eq_true rfl⟩) ?_
            refine lv_if_ne (tgt := 68) hx hb dX7_countUnexplained_61 (by decide) (fun c61 => ?_) (fun c61 => ?_)
            · replace c61 := ftB_ne c61
              refine lv_iconst (v := 0) hx hb dX7_countUnexplained_68 (by decide) ?_
              refine lv_iadd hx hb dX7_countUnexplained_69 ?_
              refine lv_istore_n (lv' := [(2, .int (x4_2 + 0)), (4, .int 1), (0, .ref a0), (1, .ref b0), (3, .int (nI i))]) hx hb dX7_countUnexplained_70 rfl hl (by decide) rfl (fun ls hl => ?_)
              refine lv_iinc (v := nI (i + 1)) (lv' := [(3, .int (nI (i + 1))), (2, .int (x4_2 + 0)), (4, .int 1), (0, .ref a0), (1, .ref b0)]) hx hb dX7_countUnexplained_71 hl (k := 4) rfl (ft_inc i) (by decide) rfl (fun ls hl => ?_)
              refine lv_goto (tgt := 4) hx hb dX7_countUnexplained_74 (by decide) ?_
              exact ih4 (i + 1) (x4_2 + 0) (nI (i + 1))  (by omega) (by omega) (by first | exact ftCount_t ex4_2 ⟨Or.inl c20, c61⟩ | exact ftCount_t ex4_2 ⟨Or.inr c32, c61⟩ | exact ftCount_f ex4_2 (fun q => q.2 c61) | exact ftCount_f ex4_2 (fun q => q.1.elim c20 c32)) (by first | rfl | assumption)  ls (lv_sub hl [3, 4, 1, 0] rfl)
            · replace c61 := ftB_eq c61
              refine lv_iconst (v := 1) hx hb dX7_countUnexplained_64 (by decide) ?_
              refine lv_goto (tgt := 69) hx hb dX7_countUnexplained_65 (by decide) ?_
              refine lv_iadd hx hb dX7_countUnexplained_69 ?_
              refine lv_istore_n (lv' := [(2, .int (x4_2 + 1)), (4, .int 1), (0, .ref a0), (1, .ref b0), (3, .int (nI i))]) hx hb dX7_countUnexplained_70 rfl hl (by decide) rfl (fun ls hl => ?_)
              refine lv_iinc (v := nI (i + 1)) (lv' := [(3, .int (nI (i + 1))), (2, .int (x4_2 + 1)), (4, .int 1), (0, .ref a0), (1, .ref b0)]) hx hb dX7_countUnexplained_71 hl (k := 4) rfl (ft_inc i) (by decide) rfl (fun ls hl => ?_)
              refine lv_goto (tgt := 4) hx hb dX7_countUnexplained_74 (by decide) ?_
              exact ih4 (i + 1) (x4_2 + 1) (nI (i + 1))  (by omega) (by omega) (by first | exact ftCount_t ex4_2 ⟨Or.inl c20, c61⟩ | exact ftCount_t ex4_2 ⟨Or.inr c32, c61⟩ | exact ftCount_f ex4_2 (fun q => q.2 c61) | exact ftCount_f ex4_2 (fun q => q.1.elim c20 c32)) (by first | rfl | assumption)  ls (lv_sub hl [3, 4, 1, 0] rfl)
        · refine lv_aload_n hx hb dX7_countUnexplained_23 rfl (lv_at hl 0 rfl) ?_
          refine va_get (D := D) (ci := 7) (v := .ref r4) (C := RX7) (T := TX7) (N := 10) hx hb hts (by decide +kernel) hown hK hP 0 rfl rfl 4 (by decide) (hts (.fieldLink RX7 24 "FiberTrace$Reading" "kinds" "[I") (by decide +kernel)) (fun _ h9 => h9) rfl dX7_countUnexplained_24 ?_
          refine lv_iload_n hx hb dX7_countUnexplained_27 rfl (lv_at hl 3 rfl) ?_
          refine ft_csi (r := ftAt 30 (ro 4) (nI i)) (va_runSN (As := [.ref r4, .int (nI i)]) (rest := []) ⟨hx, hb, hml, hown, hts⟩ (c_X10_at l D cI cS r4 30 (ro 4) (nI i) (by first | assumption | omega)) ⟨va_cnB 2 hts gX7_countUnexplained_X10_at_n40 rfl rfl rfl (hKK.2 _ (List.mem_of_getElem? (i := 22) rfl)) (hts (.initialized RX10) (by decide +kernel)) (by decide +kernel) ⟨Nat.le_of_ble_eq_true rfl, Nat.le_of_ble_eq_true rfl⟩, hts (.static yX10_at) (by decide +kernel), trivial⟩ (ft_preRO hP hKK [2] rfl) rfl rfl hl.1 rfl (lv_room (Nat.le_of_ble_eq_true rfl)) dX7_countUnexplained_28 ⟨Nat.le_of_ble_eq_true rfl, Nat.le_of_ble_eq_true rfl⟩) ?_
          refine ft_top (y := (ro 4) i) (ftAt_N (by omega) (by omega)) ?_
          refine lv_iconst (v := 1) hx hb dX7_countUnexplained_31 (by decide) ?_
          refine lv_icmp_ne (tgt := 39) hx hb dX7_countUnexplained_32 (by decide) (fun c32 => ?_) (fun c32 => ?_)
          · refine lv_iconst (v := 0) hx hb dX7_countUnexplained_39 (by decide) ?_
            refine lv_istore (lv' := [(4, .int 0), (0, .ref a0), (1, .ref b0), (2, .int x4_2), (3, .int (nI i))]) hx hb dX7_countUnexplained_40 hl (by decide) rfl (fun ls hl => ?_)
            refine lv_iload_n hx hb dX7_countUnexplained_42 rfl (lv_at hl 3 rfl) ?_
            refine lv_iload hx hb dX7_countUnexplained_43 (lv_at hl 0 rfl) ?_
            refine lv_if_eq (tgt := 68) hx hb dX7_countUnexplained_45 (by decide) (fun c45 => ?_) (fun c45 => ?_)
            · refine lv_iconst (v := 0) hx hb dX7_countUnexplained_68 (by decide) ?_
              refine lv_iadd hx hb dX7_countUnexplained_69 ?_
              refine lv_istore_n (lv' := [(2, .int (x4_2 + 0)), (4, .int 0), (0, .ref a0), (1, .ref b0), (3, .int (nI i))]) hx hb dX7_countUnexplained_70 rfl hl (by decide) rfl (fun ls hl => ?_)
              refine lv_iinc (v := nI (i + 1)) (lv' := [(3, .int (nI (i + 1))), (2, .int (x4_2 + 0)), (4, .int 0), (0, .ref a0), (1, .ref b0)]) hx hb dX7_countUnexplained_71 hl (k := 4) rfl (ft_inc i) (by decide) rfl (fun ls hl => ?_)
              refine lv_goto (tgt := 4) hx hb dX7_countUnexplained_74 (by decide) ?_
              exact ih4 (i + 1) (x4_2 + 0) (nI (i + 1))  (by omega) (by omega) (by first | exact ftCount_t ex4_2 ⟨Or.inl c20, c61⟩ | exact ftCount_t ex4_2 ⟨Or.inr c32, c61⟩ | exact ftCount_f ex4_2 (fun q => q.2 c61) | exact ftCount_f ex4_2 (fun q => q.1.elim c20 c32)) (by first | rfl | assumption)  ls (lv_sub hl [3, 4, 1, 0] rfl)
            · exact absurd rfl c45
          · refine lv_iconst (v := 1) hx hb dX7_countUnexplained_35 (by decide) ?_
            refine lv_goto (tgt := 40) hx hb dX7_countUnexplained_36 (by decide) ?_
            refine lv_istore (lv' := [(4, .int 1), (0, .ref a0), (1, .ref b0), (2, .int x4_2), (3, .int (nI i))]) hx hb dX7_countUnexplained_40 hl (by decide) rfl (fun ls hl => ?_)
            refine lv_iload_n hx hb dX7_countUnexplained_42 rfl (lv_at hl 3 rfl) ?_
            refine lv_iload hx hb dX7_countUnexplained_43 (lv_at hl 0 rfl) ?_
            refine lv_if_eq (tgt := 68) hx hb dX7_countUnexplained_45 (by decide) (fun c45 => ?_) (fun c45 => ?_)
            · exact absurd c45 (by decide)
            · refine lv_aload_n hx hb dX7_countUnexplained_48 rfl (lv_at hl 1 rfl) ?_
              refine lv_aload_n hx hb dX7_countUnexplained_49 rfl (lv_at hl 2 rfl) ?_
              refine lv_aload_n hx hb dX7_countUnexplained_50 rfl (lv_at hl 1 rfl) ?_
              refine va_get (D := D) (ci := 7) (v := .ref r0) (C := RX7) (T := TX7) (N := 10) hx hb hts (by decide +kernel) hown hK hP 0 rfl rfl 0 (by decide) (hts (.fieldLink RX7 9 "FiberTrace$Reading" "begins" "[I") (by decide +kernel)) (fun _ h9 => h9) rfl dX7_countUnexplained_51 ?_
              refine lv_iload_n hx hb dX7_countUnexplained_54 rfl (lv_at hl 4 rfl) ?_
              refine ft_csi (r := ftAt 30 (ro 0) (nI i)) (va_runSN (As := [.ref r0, .int (nI i)]) (rest := [.ref b0, .ref a0, .int x4_2]) ⟨hx, hb, hml, hown, hts⟩ (c_X10_at l D cI cS r0 30 (ro 0) (nI i) (by first | assumption | omega)) ⟨va_cnB 2 hts gX7_countUnexplained_X10_at_n40 rfl rfl rfl (hKK.2 _ (List.mem_of_getElem? (i := 22) rfl)) (hts (.initialized RX10) (by decide +kernel)) (by decide +kernel) ⟨Nat.le_of_ble_eq_true rfl, Nat.le_of_ble_eq_true rfl⟩, hts (.static yX10_at) (by decide +kernel), trivial⟩ (ft_preRO hP hKK [1] rfl) rfl rfl hl.1 rfl (lv_room (Nat.le_of_ble_eq_true rfl)) dX7_countUnexplained_55 ⟨Nat.le_of_ble_eq_true rfl, Nat.le_of_ble_eq_true rfl⟩) ?_
              refine ft_top (y := (ro 0) i) (ftAt_N (by omega) (by omega)) ?_
              refine ft_csi (r := ftB (ftNearJ tl kf pf n ((ro 0) i))) (va_runV (C := RX7) (As := [.ref b0, .int ((ro 0) i)]) (rest := [.int x4_2]) ⟨hx, hb, hml, hown, hts⟩ (c_X7_isNearJoint l D cI cS a0 r0 r1 r2 r3 r4 r5 r6 r7 k tl b0 len att en n bk bp bl br kf pf ((ro 0) i) (by first | assumption | omega)) (cwV 2 hts gX7_countUnexplained_X7_isNearJoint rfl rfl rfl (by decide +kernel) ⟨Nat.le_of_ble_eq_true rfl, Nat.le_of_ble_eq_true rfl⟩) (ft_preROV (ci := 7) (q0 := 0) hP hKK [0, 3, 4, 5] rfl rfl rfl) rfl rfl hl.1 rfl (lv_room (Nat.le_of_ble_eq_true rfl)) dX7_countUnexplained_58 ⟨Nat.le_of_ble_eq_true rfl, Nat.le_of_ble_eq_true rfl⟩) ?_
              refine lv_if_ne (tgt := 68) hx hb dX7_countUnexplained_61 (by decide) (fun c61 => ?_) (fun c61 => ?_)
              · replace c61 := ftB_ne c61
                refine lv_iconst (v := 0) hx hb dX7_countUnexplained_68 (by decide) ?_
                refine lv_iadd hx hb dX7_countUnexplained_69 ?_
                refine lv_istore_n (lv' := [(2, .int (x4_2 + 0)), (4, .int 1), (0, .ref a0), (1, .ref b0), (3, .int (nI i))]) hx hb dX7_countUnexplained_70 rfl hl (by decide) rfl (fun ls hl => ?_)
                refine lv_iinc (v := nI (i + 1)) (lv' := [(3, .int (nI (i + 1))), (2, .int (x4_2 + 0)), (4, .int 1), (0, .ref a0), (1, .ref b0)]) hx hb dX7_countUnexplained_71 hl (k := 4) rfl (ft_inc i) (by decide) rfl (fun ls hl => ?_)
                refine lv_goto (tgt := 4) hx hb dX7_countUnexplained_74 (by decide) ?_
                exact ih4 (i + 1) (x4_2 + 0) (nI (i + 1))  (by omega) (by omega) (by first | exact ftCount_t ex4_2 ⟨Or.inl c20, c61⟩ | exact ftCount_t ex4_2 ⟨Or.inr c32, c61⟩ | exact ftCount_f ex4_2 (fun q => q.2 c61) | exact ftCount_f ex4_2 (fun q => q.1.elim c20 c32)) (by first | rfl | assumption)  ls (lv_sub hl [3, 4, 1, 0] rfl)
              · replace c61 := ftB_eq c61
                refine lv_iconst (v := 1) hx hb dX7_countUnexplained_64 (by decide) ?_
                refine lv_goto (tgt := 69) hx hb dX7_countUnexplained_65 (by decide) ?_
                refine lv_iadd hx hb dX7_countUnexplained_69 ?_
                refine lv_istore_n (lv' := [(2, .int (x4_2 + 1)), (4, .int 1), (0, .ref a0), (1, .ref b0), (3, .int (nI i))]) hx hb dX7_countUnexplained_70 rfl hl (by decide) rfl (fun ls hl => ?_)
                refine lv_iinc (v := nI (i + 1)) (lv' := [(3, .int (nI (i + 1))), (2, .int (x4_2 + 1)), (4, .int 1), (0, .ref a0), (1, .ref b0)]) hx hb dX7_countUnexplained_71 hl (k := 4) rfl (ft_inc i) (by decide) rfl (fun ls hl => ?_)
                refine lv_goto (tgt := 4) hx hb dX7_countUnexplained_74 (by decide) ?_
                exact ih4 (i + 1) (x4_2 + 1) (nI (i + 1))  (by omega) (by omega) (by first | exact ftCount_t ex4_2 ⟨Or.inl c20, c61⟩ | exact ftCount_t ex4_2 ⟨Or.inr c32, c61⟩ | exact ftCount_f ex4_2 (fun q => q.2 c61) | exact ftCount_f ex4_2 (fun q => q.1.elim c20 c32)) (by first | rfl | assumption)  ls (lv_sub hl [3, 4, 1, 0] rfl)
  exact lp4 _ 0 0 0  (Nat.lt_succ_self _) (by omega) (by rfl) (by rfl) ls (lv_sub hl [2, 3, 1, 0] rfl)
end
section
/-! kept traces, comparison, states -/
theorem ft_remN {a b : Nat} (ha : a < 2 ^ 31) (hb : 0 < b) (hb2 : b < 2 ^ 31) : ftRemI (nI a) (nI b) = nI (a % b) := by
  have h1 : nI a / nI b = nI (a / b) := by
    refine Int32.toInt_inj.mp ?_
    have hq : a / b ≤ a := Nat.div_le_self a b
    rw [Int32.toInt_div_of_ne_left, nI_toInt ha, nI_toInt hb2, nI_toInt (by omega)]
    · exact (Int.ofNat_tdiv a b).symm
    · intro q
      have := nI_toInt ha
      rw [q] at this
      exact absurd this (by have := Int32.toInt_minValue; omega)
  unfold ftRemI
  have hm : a / b * b ≤ a := Nat.div_mul_le_self a b
  rw [h1, ft_mulN, ft_subN hm]
  congr 1
  have := Nat.div_add_mod a b
  rw [Nat.mul_comm] at this
  omega
theorem ft_xor8 {x : Int32} (h : 0 ≤ x) : 0 ≤ x ^^^ 8 := by
  rw [Int32.le_iff_toInt_le] at h ⊢
  have h1 : x.toBitVec.msb = false := by rw [BitVec.msb_eq_toInt]; exact decide_eq_false (Int.not_lt.mpr h)
  have h2 : (x ^^^ 8).toBitVec.msb = false := by rw [Int32.toBitVec_xor, BitVec.msb_xor, h1]; rfl
  rw [BitVec.msb_eq_toInt] at h2
  exact Int.not_lt.mp (of_decide_eq_false h2)
/-- N places of g in a row from o on -/
def ftSeg (g f : Nat → Int32) (o X : Nat) : Nat → Int32 := fun t => if o ≤ t ∧ t < o + X then g (t - o) else f t
theorem ftSeg_0 (g f : Nat → Int32) (o : Nat) : f = ftSeg g f o 0 := funext fun t => (if_neg (by omega)).symm
theorem ftSeg_s {g f : Nat → Int32} {o X : Nat} : upd (ftSeg g f o X) (o + X) (g X) = ftSeg g f o (X + 1) := by
  funext t
  unfold upd ftSeg
  by_cases q : t = o + X
  · subst q; rw [if_pos rfl, if_pos (by omega), Nat.add_sub_cancel_left]
  · rw [if_neg q]
    by_cases r : o ≤ t ∧ t < o + X
    · rw [if_pos r, if_pos (by omega)]
    · rw [if_neg r, if_neg (by omega)]
abbrev ftCs : Type := Int32 × Int32 × Int32 × Int32
/-- what a comparison notes: first place, how many, the greatest, its place -/
def ftNote (q : ftCs) (x d li : Int32) : ftCs := (if li < d then (if q.1 = -1 then x else q.1) else q.1, if li < d then q.2.1 + 1 else q.2.1, if q.2.2.1 < d then d else q.2.2.1, if q.2.2.1 < d then x else q.2.2.2)
def ftComp (v w : Nat → Int32) (li : Int32) : Nat → ftCs
  | 0 => (-1, 0, 0, 0)
  | x + 1 => ftNote (ftComp v w li x) (nI x) (ftAbs (v x - w x)) li
theorem ft_minN {a b : Nat} (ha : a < 2 ^ 31) (hb : b < 2 ^ 31) : ftMin (nI a) (nI b) = nI (min a b) := by
  unfold ftMin
  by_cases q : nI b < nI a
  · rw [if_pos q, Nat.min_eq_right (Nat.le_of_lt (ft_ltN hb ha q))]
  · rw [if_neg q, Nat.min_eq_left (ft_nltN hb ha q)]
set_option maxHeartbeats 4000000 in
set_option maxRecDepth 100000 in
theorem c_J9_floorMod_7cf53 (l : Launch) (D : va_G) (cI cS : ClassId) (ka : Nat) (hka : ka < 2 ^ 31) : Met l yJ9_floorMod_7cf53 wsJ9_floorMod_7cf53 ({ frames := 0, cells := 0, slots := 0, locals := 0 }) (ftRO D cI cS [.int (nI ka), .int 8] []) (vp_Si (fun o9 => o9 = nI (ka % 8))) 0 0 (fun _ => False) := by
  refine ft_ofWF (cc := cJ9_floorMod_7cf53) (maxL := 3) (ret := (some .int)) (by decide +kernel) rfl ?_
  intro p e s m args below meth c s₁ B hml hv
  obtain ⟨rfl, hP, hKK⟩ := hv
  have hK := hKK.1
  have hx := B.exec
  have hb := B.bytes
  have hr := B.returns
  have hts := atoms_spec (ws := wsJ9_floorMod_7cf53) B.pre
  have hown : s.vm.findClass RJ9 = some m.cls := findClass_of_methodNamed B.named
  have hlocks := B.notSynchronized
  have hP : va_P D vwCl [] s.heap := hP
  have hl := lv_entry ([.int (nI ka), .int 8]) (n := 3) (Nat.le_of_ble_eq_true rfl)
  rw [lg_entry_eq]
  generalize (lg_sl ([.int (nI ka), .int 8]) ++ List.replicate (3 - (lg_sl ([.int (nI ka), .int 8])).length) Slot.unset).toArray = ls at hl ⊢
  have hl : lv_has ls 3 [(0, .int (nI ka)), (1, .int 8)] := hl
  refine lv_iload_n hx hb dJ9_floorMod_7cf53_0 rfl (lv_at hl 0 rfl) ?_
  refine lv_iload_n hx hb dJ9_floorMod_7cf53_1 rfl (lv_at hl 1 rfl) ?_
  refine lv_irem hx hb dJ9_floorMod_7cf53_2 (by decide) ?_
  refine ft_top (y := ftRemI (nI ka) 8) rfl ?_
  refine ft_top (y := nI (ka % 8)) (ft_remN (b := 8) hka (by omega) (by omega)) ?_
  refine lv_istore_n (lv' := [(2, .int (nI (ka % 8))), (0, .int (nI ka)), (1, .int 8)]) hx hb dJ9_floorMod_7cf53_3 rfl hl (by decide) rfl (fun ls hl => ?_)
  refine lv_iload_n hx hb dJ9_floorMod_7cf53_4 rfl (lv_at hl 1 rfl) ?_
  refine lv_iload_n hx hb dJ9_floorMod_7cf53_5 rfl (lv_at hl 2 rfl) ?_
  refine lv_ixor hx hb dJ9_floorMod_7cf53_6 ?_
  refine lv_if_ge (tgt := 18) hx hb dJ9_floorMod_7cf53_7 (by decide) (fun c7 => ?_) (fun c7 => ?_)
  · refine lv_iload_n hx hb dJ9_floorMod_7cf53_18 rfl (lv_at hl 0 rfl) ?_
    exact W.iret (v := nI (ka % 8)) hx hb hr (fun t ht hW => ⟨nI (ka % 8), rfl, rfl, ht⟩) (fun _ h9 => absurd h9 List.not_mem_nil) dJ9_floorMod_7cf53_19
  · exact absurd (ft_xor8 (nI_pos' hka)) c7
set_option maxHeartbeats 4000000 in
set_option maxRecDepth 100000 in
theorem c_X3_sizeOf (l : Launch) (D : va_G) (cI cS : ClassId) (k0 ks kz : Nat) (zf : Nat → Int32) (ka : Nat) (hka : ka < 2 ^ 31) : Met l yX3_sizeOf wsX3_sizeOf ({ frames := 1, cells := 0, slots := 0, locals := 22 }) (ftRO D cI cS [.ref k0, .int (nI ka)] [(k0, .inr (3, [.ref ks, .ref kz])), (kz, .inl (cI, 8, .inl zf))]) (vp_Si (fun o9 => o9 = zf (ka % 8))) 0 0 (fun _ => False) := by
  refine Met.ofW (cc := cX3_sizeOf) (maxL := 2) (ret := (some .int)) (by decide) rfl ?_
  intro p e s m args below meth c s₁ B hml hv
  obtain ⟨rfl, hP, hKK⟩ := hv
  have hK := hKK.1
  have hx := B.exec
  have hb := B.bytes
  have hr := B.returns
  have hts := atoms_spec (ws := wsX3_sizeOf) B.pre
  have hown : s.vm.findClass RX3 = some m.cls := findClass_of_methodNamed B.named
  have hlocks := B.notSynchronized
  have hP : va_P D vwCl [(k0, .inr (3, [.ref ks, .ref kz])), (kz, .inl (cI, 8, .inl zf))] s.heap := hP
  have hl := lv_entry ([.ref k0, .int (nI ka)]) (n := 2) (Nat.le_of_ble_eq_true rfl)
  rw [lg_entry_eq]
  generalize (lg_sl ([.ref k0, .int (nI ka)]) ++ List.replicate (2 - (lg_sl ([.ref k0, .int (nI ka)])).length) Slot.unset).toArray = ls at hl ⊢
  have hl : lv_has ls 2 [(0, .ref k0), (1, .int (nI ka))] := hl
  refine lv_aload_n hx hb dX3_sizeOf_0 rfl (lv_at hl 0 rfl) ?_
  refine va_get (D := D) (ci := 3) (v := .ref kz) (C := RX3) (T := TX3) (N := 2) hx hb hts (by decide +kernel) hown hK hP 0 rfl rfl 1 (by decide) (hts (.fieldLink RX3 15 "FiberTrace$KeptTraces" "sizes" "[I") (by decide +kernel)) (fun _ h9 => h9) rfl dX3_sizeOf_1 ?_
  refine lv_iload_n hx hb dX3_sizeOf_4 rfl (lv_at hl 1 rfl) ?_
  refine lv_bipush (v := 8) hx hb dX3_sizeOf_5 (by decide) ?_
  refine ft_csi (r := nI (ka % 8)) (va_runS (As := [.int (nI ka), .int 8]) (rest := [.ref kz]) ⟨hx, hb, hml, hown, hts⟩ (c_J9_floorMod_7cf53 l D cI cS ka (by first | assumption | omega)) (va_cwS 2 hts gX3_sizeOf_J9_floorMod_7cf53 rfl rfl rfl (by decide +kernel) ⟨Nat.le_of_ble_eq_true rfl, Nat.le_of_ble_eq_true rfl⟩) (ft_preRO hP hKK [] rfl) rfl rfl hl.1 rfl (lv_room (Nat.le_of_ble_eq_true rfl)) dX3_sizeOf_7 ⟨Nat.le_of_ble_eq_true rfl, Nat.le_of_ble_eq_true rfl⟩) ?_
  refine ft_csi (r := ftAt 8 zf (nI (ka % 8))) (va_runSN (As := [.ref kz, .int (nI (ka % 8))]) (rest := []) ⟨hx, hb, hml, hown, hts⟩ (c_X10_at l D cI cS kz 8 zf (nI (ka % 8)) (by first | assumption | omega)) ⟨va_cnB 2 hts gX3_sizeOf_X10_at_n35 rfl rfl rfl (hKK.2 _ (List.mem_of_getElem? (i := 26) rfl)) (hts (.initialized RX10) (by decide +kernel)) (by decide +kernel) ⟨Nat.le_of_ble_eq_true rfl, Nat.le_of_ble_eq_true rfl⟩, hts (.static yX10_at) (by decide +kernel), trivial⟩ (ft_preRO hP hKK [1] rfl) rfl rfl hl.1 rfl (lv_room (Nat.le_of_ble_eq_true rfl)) dX3_sizeOf_10 ⟨Nat.le_of_ble_eq_true rfl, Nat.le_of_ble_eq_true rfl⟩) ?_
  refine ft_top (y := zf (ka % 8)) (ftAt_N (by omega) (by omega)) ?_
  exact W.iret (v := zf (ka % 8)) hx hb hr (fun t ht hW => ⟨zf (ka % 8), rfl, rfl, ht⟩) (fun _ h9 => absurd h9 List.not_mem_nil) dX3_sizeOf_13
set_option maxHeartbeats 4000000 in
set_option maxRecDepth 100000 in
theorem c_X3_valueAt (l : Launch) (D : va_G) (cI cS : ClassId) (k0 ks kz : Nat) (kf : Nat → Int32) (ka x : Nat) (hka : ka < 2 ^ 31) (hx4 : x < 460) : Met l yX3_valueAt wsX3_valueAt ({ frames := 1, cells := 0, slots := 0, locals := 22 }) (ftRO D cI cS [.ref k0, .int (nI ka), .int (nI x)] [(k0, .inr (3, [.ref ks, .ref kz])), (ks, .inl (cI, 3680, .inl kf))]) (vp_Si (fun o9 => o9 = kf ((ka % 8) * 460 + x))) 0 0 (fun _ => False) := by
  refine Met.ofW (cc := cX3_valueAt) (maxL := 3) (ret := (some .int)) (by decide) rfl ?_
  intro p e s m args below meth c s₁ B hml hv
  obtain ⟨rfl, hP, hKK⟩ := hv
  have hK := hKK.1
  have hx := B.exec
  have hb := B.bytes
  have hr := B.returns
  have hts := atoms_spec (ws := wsX3_valueAt) B.pre
  have hown : s.vm.findClass RX3 = some m.cls := findClass_of_methodNamed B.named
  have hlocks := B.notSynchronized
  have hP : va_P D vwCl [(k0, .inr (3, [.ref ks, .ref kz])), (ks, .inl (cI, 3680, .inl kf))] s.heap := hP
  have hl := lv_entry ([.ref k0, .int (nI ka), .int (nI x)]) (n := 3) (Nat.le_of_ble_eq_true rfl)
  rw [lg_entry_eq]
  generalize (lg_sl ([.ref k0, .int (nI ka), .int (nI x)]) ++ List.replicate (3 - (lg_sl ([.ref k0, .int (nI ka), .int (nI x)])).length) Slot.unset).toArray = ls at hl ⊢
  have hl : lv_has ls 3 [(0, .ref k0), (1, .int (nI ka)), (2, .int (nI x))] := hl
  refine lv_aload_n hx hb dX3_valueAt_0 rfl (lv_at hl 0 rfl) ?_
  refine va_get (D := D) (ci := 3) (v := .ref ks) (C := RX3) (T := TX3) (N := 2) hx hb hts (by decide +kernel) hown hK hP 0 rfl rfl 0 (by decide) (hts (.fieldLink RX3 11 "FiberTrace$KeptTraces" "samples" "[I") (by decide +kernel)) (fun _ h9 => h9) rfl dX3_valueAt_1 ?_
  refine lv_iload_n hx hb dX3_valueAt_4 rfl (lv_at hl 1 rfl) ?_
  refine lv_bipush (v := 8) hx hb dX3_valueAt_5 (by decide) ?_
  refine ft_csi (r := nI (ka % 8)) (va_runS (As := [.int (nI ka), .int 8]) (rest := [.ref ks]) ⟨hx, hb, hml, hown, hts⟩ (c_J9_floorMod_7cf53 l D cI cS ka (by first | assumption | omega)) (va_cwS 2 hts gX3_valueAt_J9_floorMod_7cf53 rfl rfl rfl (by decide +kernel) ⟨Nat.le_of_ble_eq_true rfl, Nat.le_of_ble_eq_true rfl⟩) (ft_preRO hP hKK [] rfl) rfl rfl hl.1 rfl (lv_room (Nat.le_of_ble_eq_true rfl)) dX3_valueAt_7 ⟨Nat.le_of_ble_eq_true rfl, Nat.le_of_ble_eq_true rfl⟩) ?_
  refine lv_sipush (v := 460) hx hb dX3_valueAt_10 (by decide) ?_
  refine lv_imul hx hb dX3_valueAt_13 ?_
  refine ft_top (y := nI ((ka % 8) * 460)) (ft_mulN (ka % 8) 460) ?_
  refine lv_iload_n hx hb dX3_valueAt_14 rfl (lv_at hl 2 rfl) ?_
  refine lv_iadd hx hb dX3_valueAt_15 ?_
  refine ft_top (y := nI (((ka % 8) * 460) + x)) (ft_addN ((ka % 8) * 460) x) ?_
  refine ft_csi (r := ftAt 3680 kf (nI (((ka % 8) * 460) + x))) (va_runSN (As := [.ref ks, .int (nI (((ka % 8) * 460) + x))]) (rest := []) ⟨hx, hb, hml, hown, hts⟩ (c_X10_at l D cI cS ks 3680 kf (nI (((ka % 8) * 460) + x)) (by first | assumption | omega)) ⟨va_cnB 2 hts gX3_valueAt_X10_at_n35 rfl rfl rfl (hKK.2 _ (List.mem_of_getElem? (i := 26) rfl)) (hts (.initialized RX10) (by decide +kernel)) (by decide +kernel) ⟨Nat.le_of_ble_eq_true rfl, Nat.le_of_ble_eq_true rfl⟩, hts (.static yX10_at) (by decide +kernel), trivial⟩ (ft_preRO hP hKK [1] rfl) rfl rfl hl.1 rfl (lv_room (Nat.le_of_ble_eq_true rfl)) dX3_valueAt_16 ⟨Nat.le_of_ble_eq_true rfl, Nat.le_of_ble_eq_true rfl⟩) ?_
  refine ft_top (y := kf (((ka % 8) * 460) + x)) (ftAt_N (by omega) (by omega)) ?_
  exact W.iret (v := kf (((ka % 8) * 460) + x)) hx hb hr (fun t ht hW => ⟨kf (((ka % 8) * 460) + x), rfl, rfl, ht⟩) (fun _ h9 => absurd h9 List.not_mem_nil) dX3_valueAt_19
set_option maxHeartbeats 4000000 in
set_option maxRecDepth 100000 in
theorem c_X3_store (l : Launch) (D : va_G) (cI cS : ClassId) (sz : Nat) (k0 ks kz : Nat) (kf zf : Nat → Int32) (ka a0 ab ap an as N : Nat) (d1 d2 d3 d4 : Int32) (fs : Nat → Int32) (hka : ka < 2 ^ 31) (hN : N ≤ 460) : Met l yX3_store wsX3_store ({ frames := 1, cells := 0, slots := 0, locals := 22 }) (ftRW D cI cS [.ref k0, .int (nI ka), .ref a0] [(k0, .inr (3, [.ref ks, .ref kz])), (ks, .inl (cI, 3680, .inl kf)), (kz, .inl (cI, 8, .inl zf)), (a0, .inr (9, [.ref ab, .ref ap, .ref an, .ref as, .int (nI N), .int d1, .int d2, .int d3, .int d4])), (as, .inl (cI, 460, .inl fs))] sz) (ftQv D [(k0, .inr (3, [.ref ks, .ref kz])), (ks, .inl (cI, 3680, .inl kf)), (kz, .inl (cI, 8, .inl zf)), (a0, .inr (9, [.ref ab, .ref ap, .ref an, .ref as, .int (nI N), .int d1, .int d2, .int d3, .int d4])), (as, .inl (cI, 460, .inl fs))] [(k0, .inr (3, [.ref ks, .ref kz])), (ks, .inl (cI, 3680, .inl (ftSeg fs kf ((ka % 8) * 460) N))), (kz, .inl (cI, 8, .inl (upd zf (ka % 8) (nI N)))), (a0, .inr (9, [.ref ab, .ref ap, .ref an, .ref as, .int (nI N), .int d1, .int d2, .int d3, .int d4])), (as, .inl (cI, 460, .inl fs))] sz) 0 0 (va_A [(k0, .inr (3, [.ref ks, .ref kz])), (ks, .inl (cI, 3680, .inl kf)), (kz, .inl (cI, 8, .inl zf)), (a0, .inr (9, [.ref ab, .ref ap, .ref an, .ref as, .int (nI N), .int d1, .int d2, .int d3, .int d4])), (as, .inl (cI, 460, .inl fs))] sz) := by
  refine Met.ofW (cc := cX3_store) (maxL := 5) (ret := none) (by decide) rfl ?_
  intro p e s m args below meth c s₁ B hml hv
  obtain ⟨rfl, hsz, hP, hKK, hD0⟩ := hv
  have hK := hKK.1
  have hx := B.exec
  have hb := B.bytes
  have hr := B.returns
  have hts := atoms_spec (ws := wsX3_store) B.pre
  have hown : s.vm.findClass RX3 = some m.cls := findClass_of_methodNamed B.named
  have hlocks := B.notSynchronized
  subst hsz
  have hD := hD0.self (sz := s.heap.size)
  generalize hAe : va_A [(k0, .inr (3, [.ref ks, .ref kz])), (ks, .inl (cI, 3680, .inl kf)), (kz, .inl (cI, 8, .inl zf)), (a0, .inr (9, [.ref ab, .ref ap, .ref an, .ref as, .int (nI N), .int d1, .int d2, .int d3, .int d4])), (as, .inl (cI, 460, .inl fs))] s.heap.size = A at hD ⊢
  have hA : ∀ q : Nat, s.heap.size ≤ q → A q := fun q h => by rw [← hAe]; exact Or.inr h
  have hS : va_S A s.heap s.heap [] := va_S.rf
  have hD : va_D A [(k0, .inr (3, [.ref ks, .ref kz])), (ks, .inl (cI, 3680, .inl kf)), (kz, .inl (cI, 8, .inl zf)), (a0, .inr (9, [.ref ab, .ref ap, .ref an, .ref as, .int (nI N), .int d1, .int d2, .int d3, .int d4])), (as, .inl (cI, 460, .inl fs))] := hD
  have hP : va_P D vwCl [(k0, .inr (3, [.ref ks, .ref kz])), (ks, .inl (cI, 3680, .inl kf)), (kz, .inl (cI, 8, .inl zf)), (a0, .inr (9, [.ref ab, .ref ap, .ref an, .ref as, .int (nI N), .int d1, .int d2, .int d3, .int d4])), (as, .inl (cI, 460, .inl fs))] s.heap := hP
  have hl := lv_entry ([.ref k0, .int (nI ka), .ref a0]) (n := 5) (Nat.le_of_ble_eq_true rfl)
  rw [lg_entry_eq]
  generalize (lg_sl ([.ref k0, .int (nI ka), .ref a0]) ++ List.replicate (5 - (lg_sl ([.ref k0, .int (nI ka), .ref a0])).length) Slot.unset).toArray = ls at hl ⊢
  have hl : lv_has ls 5 [(0, .ref k0), (1, .int (nI ka)), (2, .ref a0)] := hl
  refine lv_iload_n hx hb dX3_store_0 rfl (lv_at hl 1 rfl) ?_
  refine lv_bipush (v := 8) hx hb dX3_store_1 (by decide) ?_
  refine ft_csi (r := nI (ka % 8)) (va_runS (As := [.int (nI ka), .int 8]) (rest := []) ⟨hx, hb, hml, hown, hts⟩ (c_J9_floorMod_7cf53 l D cI cS ka (by first | assumption | omega)) (va_cwS 2 hts gX3_store_J9_floorMod_7cf53 rfl rfl rfl (by decide +kernel) ⟨Nat.le_of_ble_eq_true rfl, Nat.le_of_ble_eq_true rfl⟩) (ft_preRO hP hKK [] rfl) rfl rfl hl.1 rfl (lv_room (Nat.le_of_ble_eq_true rfl)) dX3_store_3 ⟨Nat.le_of_ble_eq_true rfl, Nat.le_of_ble_eq_true rfl⟩) ?_
  refine lv_istore_n (lv' := [(3, .int (nI (ka % 8))), (0, .ref k0), (1, .int (nI ka)), (2, .ref a0)]) hx hb dX3_store_6 rfl hl (by decide) rfl (fun ls hl => ?_)
  refine lv_aload_n hx hb dX3_store_7 rfl (lv_at hl 1 rfl) ?_
  refine va_get (D := D) (ci := 3) (v := .ref kz) (C := RX3) (T := TX3) (N := 2) hx hb hts (by decide +kernel) hown hK hP 0 rfl rfl 1 (by decide) (hts (.fieldLink RX3 15 "FiberTrace$KeptTraces" "sizes" "[I") (by decide +kernel)) (fun _ h9 => h9) rfl dX3_store_8 ?_
  refine lv_iload_n hx hb dX3_store_11 rfl (lv_at hl 0 rfl) ?_
  refine lv_aload_n hx hb dX3_store_12 rfl (lv_at hl 3 rfl) ?_
  refine va_get (D := D) (ci := 9) (v := .int (nI N)) (C := RX9) (T := TX9) (N := 9) hx hb hts (by decide +kernel) hown hK hP 3 rfl rfl 4 (by decide) (hts (.fieldLink RX3 24 "FiberTrace$Trace" "size" "I") (by decide +kernel)) (fun _ h9 => h9) rfl dX3_store_13 ?_
  refine ft_cv (wc := [(kz, .inl (cI, 8, .inl zf))]) (wr := [(k0, .inr (3, [.ref ks, .ref kz])), (ks, .inl (cI, 3680, .inl kf)), (a0, .inr (9, [.ref ab, .ref ap, .ref an, .ref as, .int (nI N), .int d1, .int d2, .int d3, .int d4])), (as, .inl (cI, 460, .inl fs))]) (w1 := [(kz, .inl (cI, 8, .inl (ftPut 8 zf (nI (ka % 8)) (nI N))))]) (ws1 := [(k0, .inr (3, [.ref ks, .ref kz])), (ks, .inl (cI, 3680, .inl kf)), (kz, .inl (cI, 8, .inl (ftPut 8 zf (nI (ka % 8)) (nI N)))), (a0, .inr (9, [.ref ab, .ref ap, .ref an, .ref as, .int (nI N), .int d1, .int d2, .int d3, .int d4])), (as, .inl (cI, 460, .inl fs))]) (va_runSN (As := [.ref kz, .int (nI (ka % 8)), .int (nI N)]) (rest := []) ⟨hx, hb, hml, hown, hts⟩ (c_X10_put l D cI cS s.heap.size kz 8 zf (nI (ka % 8)) (nI N) (by first | assumption | omega)) ⟨va_cnB 3 hts gX3_store_X10_put_n30 rfl rfl rfl (hKK.2 _ (List.mem_of_getElem? (i := 25) rfl)) (hts (.initialized RX10) (by decide +kernel)) (by decide +kernel) ⟨Nat.le_of_ble_eq_true rfl, Nat.le_of_ble_eq_true rfl⟩, hts (.static yX10_put) (by decide +kernel), trivial⟩ (ft_preRW hP hD hKK [2] rfl rfl rfl) rfl rfl hl.1 rfl (lv_room (Nat.le_of_ble_eq_true rfl)) dX3_store_16 ⟨Nat.le_of_ble_eq_true rfl, Nat.le_of_ble_eq_true rfl⟩) hP hD hS hA [2] [0, 1, 3, 4] [0, 1, 4, 2, 3] rfl rfl (by decide) (by decide) (by decide) rfl rfl (fun H locs hP hD hS => ?_)
  rw [ftPut_N (k := ka % 8) (by omega) (by omega)] at hP hD
  have hP : va_P D vwCl [(k0, .inr (3, [.ref ks, .ref kz])), (ks, .inl (cI, 3680, .inl kf)), (kz, .inl (cI, 8, .inl (upd zf (ka % 8) (nI N)))), (a0, .inr (9, [.ref ab, .ref ap, .ref an, .ref as, .int (nI N), .int d1, .int d2, .int d3, .int d4])), (as, .inl (cI, 460, .inl fs))] H := hP
  have hD : va_D A [(k0, .inr (3, [.ref ks, .ref kz])), (ks, .inl (cI, 3680, .inl kf)), (kz, .inl (cI, 8, .inl (upd zf (ka % 8) (nI N)))), (a0, .inr (9, [.ref ab, .ref ap, .ref an, .ref as, .int (nI N), .int d1, .int d2, .int d3, .int d4])), (as, .inl (cI, 460, .inl fs))] := hD
  refine lv_iconst (v := 0) hx hb dX3_store_19 (by decide) ?_
  refine lv_istore (lv' := [(4, .int 0), (3, .int (nI (ka % 8))), (0, .ref k0), (1, .int (nI ka)), (2, .ref a0)]) hx hb dX3_store_20 hl (by decide) rfl (fun ls hl => ?_)
  have lp22 : ∀ (n22 : Nat) (x : Nat) (x22_4 : Int32) (g22_ks : Nat → Int32), N - x < n22 → (x ≤ N) → x22_4 = nI x → g22_ks = ftSeg fs kf ((ka % 8) * 460) x → ∀ (H : Heap) (locs : List Loc), va_P D vwCl [(k0, .inr (3, [.ref ks, .ref kz])), (ks, .inl (cI, 3680, .inl g22_ks)), (kz, .inl (cI, 8, .inl (upd zf (ka % 8) (nI N)))), (a0, .inr (9, [.ref ab, .ref ap, .ref an, .ref as, .int (nI N), .int d1, .int d2, .int d3, .int d4])), (as, .inl (cI, 460, .inl fs))] H → va_D A [(k0, .inr (3, [.ref ks, .ref kz])), (ks, .inl (cI, 3680, .inl g22_ks)), (kz, .inl (cI, 8, .inl (upd zf (ka % 8) (nI N)))), (a0, .inr (9, [.ref ab, .ref ap, .ref an, .ref as, .int (nI N), .int d1, .int d2, .int d3, .int d4])), (as, .inl (cI, 460, .inl fs))] → va_S A s.heap H locs → ∀ ls : Array Slot, lv_has ls 5 [(0, .ref k0), (1, .int (nI ka)), (2, .ref a0), (3, .int (nI (ka % 8))), (4, .int x22_4)] → W p l e (headSpec wsX3_store { frames := 1, cells := 0, slots := 0, locals := 22 }).room s m ([.ref k0, .int (nI ka), .ref a0] : List Value).toArray below meth c H locs 0 0 (MQ below (ftQv D [(k0, .inr (3, [.ref ks, .ref kz])), (ks, .inl (cI, 3680, .inl kf)), (kz, .inl (cI, 8, .inl zf)), (a0, .inr (9, [.ref ab, .ref ap, .ref an, .ref as, .int (nI N), .int d1, .int d2, .int d3, .int d4])), (as, .inl (cI, 460, .inl fs))] [(k0, .inr (3, [.ref ks, .ref kz])), (ks, .inl (cI, 3680, .inl (ftSeg fs kf ((ka % 8) * 460) N))), (kz, .inl (cI, 8, .inl (upd zf (ka % 8) (nI N)))), (a0, .inr (9, [.ref ab, .ref ap, .ref an, .ref as, .int (nI N), .int d1, .int d2, .int d3, .int d4])), (as, .inl (cI, 460, .inl fs))] s.heap.size) ([.ref k0, .int (nI ka), .ref a0] : List Value).toArray s 0 0 A) (F0 m 22 ls []) := by
    intro n22
    induction n22 with
    | zero =>
      intro x x22_4 g22_ks hm22
      exact absurd hm22 (Nat.not_lt_zero _)
    | succ n22 ih22 =>
      intro x x22_4 g22_ks hm22 hx0 ex22_4 eg22_ks H locs hP hD hS ls hl
      subst ex22_4
      refine lv_iload hx hb dX3_store_22 (lv_at hl 4 rfl) ?_
      refine lv_aload_n hx hb dX3_store_24 rfl (lv_at hl 2 rfl) ?_
      refine va_get (D := D) (ci := 9) (v := .int (nI N)) (C := RX9) (T := TX9) (N := 9) hx hb hts (by decide +kernel) hown hK hP 3 rfl rfl 4 (by decide) (hts (.fieldLink RX3 24 "FiberTrace$Trace" "size" "I") (by decide +kernel)) (fun _ h9 => h9) rfl dX3_store_25 ?_
      refine lv_icmp_ge (tgt := 61) hx hb dX3_store_28 (by decide) (fun c28 => ?_) (fun c28 => ?_)
      · have c28n : N ≤ x := ft_leN (by omega) (by omega) c28
        have hw9 : ([(k0, .inr (3, [.ref ks, .ref kz])), (ks, .inl (cI, 3680, .inl g22_ks)), (kz, .inl (cI, 8, .inl (upd zf (ka % 8) (nI N)))), (a0, .inr (9, [.ref ab, .ref ap, .ref an, .ref as, .int (nI N), .int d1, .int d2, .int d3, .int d4])), (as, .inl (cI, 460, .inl fs))] : va_W) = [(k0, .inr (3, [.ref ks, .ref kz])), (ks, .inl (cI, 3680, .inl (ftSeg fs kf ((ka % 8) * 460) N))), (kz, .inl (cI, 8, .inl (upd zf (ka % 8) (nI N)))), (a0, .inr (9, [.ref ab, .ref ap, .ref an, .ref as, .int (nI N), .int d1, .int d2, .int d3, .int d4])), (as, .inl (cI, 460, .inl fs))] := by (obtain rfl : x = N := by omega); rw [eg22_ks]
        rw [hw9] at hP hD
        exact W.vret hx hb hr (fun t ht hW => ⟨⟨(), rfl, trivial, by rw [ht]; exact hP, by rw [hAe]; exact hD⟩, by rw [hAe]; exact hS.F ht⟩) hS.2.2 dX3_store_61
      · have c28n : x < N := ft_nleN (by omega) (by omega) c28
        refine lv_aload_n hx hb dX3_store_31 rfl (lv_at hl 0 rfl) ?_
        refine va_get (D := D) (ci := 3) (v := .ref ks) (C := RX3) (T := TX3) (N := 2) hx hb hts (by decide +kernel) hown hK hP 0 rfl rfl 0 (by decide) (hts (.fieldLink RX3 11 "FiberTrace$KeptTraces" "samples" "[I") (by decide +kernel)) (fun _ h9 => h9) rfl dX3_store_32 ?_
        refine lv_iload_n hx hb dX3_store_35 rfl (lv_at hl 3 rfl) ?_
        refine lv_sipush (v := 460) hx hb dX3_store_36 (by decide) ?_
        refine lv_imul hx hb dX3_store_39 ?_
        refine ft_top (y := nI ((ka % 8) * 460)) (ft_mulN (ka % 8) 460) ?_
        refine lv_iload hx hb dX3_store_40 (lv_at hl 4 rfl) ?_
        refine lv_iadd hx hb dX3_store_42 ?_
        refine ft_top (y := nI (((ka % 8) * 460) + x)) (ft_addN ((ka % 8) * 460) x) ?_
        refine lv_aload_n hx hb dX3_store_43 rfl (lv_at hl 2 rfl) ?_
        refine va_get (D := D) (ci := 9) (v := .ref as) (C := RX9) (T := TX9) (N := 9) hx hb hts (by decide +kernel) hown hK hP 3 rfl rfl 3 (by decide) (hts (.fieldLink RX3 34 "FiberTrace$Trace" "samples" "[I") (by decide +kernel)) (fun _ h9 => h9) rfl dX3_store_44 ?_
        refine lv_iload hx hb dX3_store_47 (lv_at hl 4 rfl) ?_
        refine ft_csi (r := ftAt 460 fs (nI x)) (va_runSN (As := [.ref as, .int (nI x)]) (rest := [.int (nI (((ka % 8) * 460) + x)), .ref ks]) ⟨hx, hb, hml, hown, hts⟩ (c_X10_at l D cI cS as 460 fs (nI x) (by first | assumption | omega)) ⟨va_cnB 2 hts gX3_store_X10_at_n35 rfl rfl rfl (hKK.2 _ (List.mem_of_getElem? (i := 26) rfl)) (hts (.initialized RX10) (by decide +kernel)) (by decide +kernel) ⟨Nat.le_of_ble_eq_true rfl, Nat.le_of_ble_eq_true rfl⟩, hts (.static yX10_at) (by decide +kernel), trivial⟩ (ft_preRO hP hKK [4] rfl) rfl rfl hl.1 rfl (lv_room (Nat.le_of_ble_eq_true rfl)) dX3_store_49 ⟨Nat.le_of_ble_eq_true rfl, Nat.le_of_ble_eq_true rfl⟩) ?_
        refine ft_top (y := fs x) (ftAt_N (by omega) (by omega)) ?_
        refine ft_cv (wc := [(ks, .inl (cI, 3680, .inl g22_ks))]) (wr := [(k0, .inr (3, [.ref ks, .ref kz])), (kz, .inl (cI, 8, .inl (upd zf (ka % 8) (nI N)))), (a0, .inr (9, [.ref ab, .ref ap, .ref an, .ref as, .int (nI N), .int d1, .int d2, .int d3, .int d4])), (as, .inl (cI, 460, .inl fs))]) (w1 := [(ks, .inl (cI, 3680, .inl (ftPut 3680 g22_ks (nI (((ka % 8) * 460) + x)) (fs x))))]) (ws1 := [(k0, .inr (3, [.ref ks, .ref kz])), (ks, .inl (cI, 3680, .inl (ftPut 3680 g22_ks (nI (((ka % 8) * 460) + x)) (fs x)))), (kz, .inl (cI, 8, .inl (upd zf (ka % 8) (nI N)))), (a0, .inr (9, [.ref ab, .ref ap, .ref an, .ref as, .int (nI N), .int d1, .int d2, .int d3, .int d4])), (as, .inl (cI, 460, .inl fs))]) (va_runSN (As := [.ref ks, .int (nI (((ka % 8) * 460) + x)), .int (fs x)]) (rest := []) ⟨hx, hb, hml, hown, hts⟩ (c_X10_put l D cI cS H.size ks 3680 g22_ks (nI (((ka % 8) * 460) + x)) (fs x) (by first | assumption | omega)) ⟨va_cnB 3 hts gX3_store_X10_put_n30 rfl rfl rfl (hKK.2 _ (List.mem_of_getElem? (i := 25) rfl)) (hts (.initialized RX10) (by decide +kernel)) (by decide +kernel) ⟨Nat.le_of_ble_eq_true rfl, Nat.le_of_ble_eq_true rfl⟩, hts (.static yX10_put) (by decide +kernel), trivial⟩ (ft_preRW hP hD hKK [1] rfl rfl rfl) rfl rfl hl.1 rfl (lv_room (Nat.le_of_ble_eq_true rfl)) dX3_store_52 ⟨Nat.le_of_ble_eq_true rfl, Nat.le_of_ble_eq_true rfl⟩) hP hD hS hA [1] [0, 2, 3, 4] [0, 4, 1, 2, 3] rfl rfl (by decide) (by decide) (by decide) rfl rfl (fun H locs hP hD hS => ?_)
        rw [ftPut_N (k := ((ka % 8) * 460) + x) (by omega) (by omega)] at hP hD
        have hP : va_P D vwCl [(k0, .inr (3, [.ref ks, .ref kz])), (ks, .inl (cI, 3680, .inl (upd g22_ks (((ka % 8) * 460) + x) (fs x)))), (kz, .inl (cI, 8, .inl (upd zf (ka % 8) (nI N)))), (a0, .inr (9, [.ref ab, .ref ap, .ref an, .ref as, .int (nI N), .int d1, .int d2, .int d3, .int d4])), (as, .inl (cI, 460, .inl fs))] H := hP
        have hD : va_D A [(k0, .inr (3, [.ref ks, .ref kz])), (ks, .inl (cI, 3680, .inl (upd g22_ks (((ka % 8) * 460) + x) (fs x)))), (kz, .inl (cI, 8, .inl (upd zf (ka % 8) (nI N)))), (a0, .inr (9, [.ref ab, .ref ap, .ref an, .ref as, .int (nI N), .int d1, .int d2, .int d3, .int d4])), (as, .inl (cI, 460, .inl fs))] := hD
        refine lv_iinc (v := nI (x + 1)) (lv' := [(4, .int (nI (x + 1))), (0, .ref k0), (1, .int (nI ka)), (2, .ref a0), (3, .int (nI (ka % 8)))]) hx hb dX3_store_55 hl (k := 4) rfl (ft_inc x) (by decide) rfl (fun ls hl => ?_)
        refine lv_goto (tgt := 22) hx hb dX3_store_58 (by decide) ?_
        exact ih22 (x + 1) (nI (x + 1)) (upd g22_ks (((ka % 8) * 460) + x) (fs x)) (by omega) (by omega) (by first | rfl | assumption) (by rw [eg22_ks]; exact ftSeg_s) _ _ hP hD hS ls (lv_sub hl [1, 2, 3, 4, 0] rfl)
  exact lp22 _ 0 0 kf (Nat.lt_succ_self _) (by omega) (by rfl) (by exact ftSeg_0 _ _ _) _ _ hP hD hS ls (lv_sub hl [2, 3, 4, 1, 0] rfl)
set_option maxHeartbeats 4000000 in
set_option maxRecDepth 100000 in
theorem c_X0_note (l : Launch) (D : va_G) (cI cS : ClassId) (sz : Nat) (a0 : Nat) (q : ftCs) (x d li : Int32)  : Met l yX0_note wsX0_note ({ frames := 0, cells := 0, slots := 0, locals := 0 }) (ftRW D cI cS [.ref a0, .int x, .int d, .int li] [(a0, .inr (0, [.int q.1, .int q.2.1, .int q.2.2.1, .int q.2.2.2]))] sz) (ftQv D [(a0, .inr (0, [.int q.1, .int q.2.1, .int q.2.2.1, .int q.2.2.2]))] [(a0, .inr (0, [.int ((ftNote q x d li).1), .int ((ftNote q x d li).2.1), .int ((ftNote q x d li).2.2.1), .int ((ftNote q x d li).2.2.2)]))] sz) 0 0 (va_A [(a0, .inr (0, [.int q.1, .int q.2.1, .int q.2.2.1, .int q.2.2.2]))] sz) := by
  refine Met.ofW (cc := cX0_note) (maxL := 4) (ret := none) (by decide) rfl ?_
  intro p e s m args below meth c s₁ B hml hv
  obtain ⟨rfl, hsz, hP, hKK, hD0⟩ := hv
  have hK := hKK.1
  have hx := B.exec
  have hb := B.bytes
  have hr := B.returns
  have hts := atoms_spec (ws := wsX0_note) B.pre
  have hown : s.vm.findClass RX0 = some m.cls := findClass_of_methodNamed B.named
  have hlocks := B.notSynchronized
  subst hsz
  have hD := hD0.self (sz := s.heap.size)
  generalize hAe : va_A [(a0, .inr (0, [.int q.1, .int q.2.1, .int q.2.2.1, .int q.2.2.2]))] s.heap.size = A at hD ⊢
  have hA : ∀ q : Nat, s.heap.size ≤ q → A q := fun q h => by rw [← hAe]; exact Or.inr h
  have hS : va_S A s.heap s.heap [] := va_S.rf
  have hD : va_D A [(a0, .inr (0, [.int q.1, .int q.2.1, .int q.2.2.1, .int q.2.2.2]))] := hD
  have hP : va_P D vwCl [(a0, .inr (0, [.int q.1, .int q.2.1, .int q.2.2.1, .int q.2.2.2]))] s.heap := hP
  have hl := lv_entry ([.ref a0, .int x, .int d, .int li]) (n := 4) (Nat.le_of_ble_eq_true rfl)
  rw [lg_entry_eq]
  generalize (lg_sl ([.ref a0, .int x, .int d, .int li]) ++ List.replicate (4 - (lg_sl ([.ref a0, .int x, .int d, .int li])).length) Slot.unset).toArray = ls at hl ⊢
  have hl : lv_has ls 4 [(0, .ref a0), (1, .int x), (2, .int d), (3, .int li)] := hl
  refine lv_iload_n hx hb dX0_note_0 rfl (lv_at hl 2 rfl) ?_
  refine lv_iload_n hx hb dX0_note_1 rfl (lv_at hl 3 rfl) ?_
  refine lv_icmp_le (tgt := 35) hx hb dX0_note_2 (by decide) (fun c2 => ?_) (fun c2 => ?_)
  · refine lv_iload_n hx hb dX0_note_35 rfl (lv_at hl 2 rfl) ?_
    refine lv_aload_n hx hb dX0_note_36 rfl (lv_at hl 0 rfl) ?_
    refine va_get (D := D) (ci := 0) (v := .int q.2.2.1) (C := RX0) (T := TX0) (N := 4) hx hb hts (by decide +kernel) hown hK hP 0 rfl rfl 2 (by decide) (hts (.fieldLink RX0 18 "FiberTrace$Comparison" "greatest" "I") (by decide +kernel)) (fun _ h9 => h9) rfl dX0_note_37 ?_
    refine lv_icmp_le (tgt := 53) hx hb dX0_note_40 (by decide) (fun c40 => ?_) (fun c40 => ?_)
    · have hw9 : ([(a0, .inr (0, [.int q.1, .int q.2.1, .int q.2.2.1, .int q.2.2.2]))] : va_W) = [(a0, .inr (0, [.int ((ftNote q x d li).1), .int ((ftNote q x d li).2.1), .int ((ftNote q x d li).2.2.1), .int ((ftNote q x d li).2.2.2)]))] := by unfold ftNote; first | (rw [if_neg (Int32.not_lt.mpr c2), if_neg (Int32.not_lt.mpr c2), if_neg (Int32.not_lt.mpr c40), if_neg (Int32.not_lt.mpr c40)]; done) | (rw [if_neg (Int32.not_lt.mpr c2), if_neg (Int32.not_lt.mpr c2), if_pos (Int32.not_le.mp c40), if_pos (Int32.not_le.mp c40)]; done) | (rw [if_pos (Int32.not_le.mp c2), if_pos (Int32.not_le.mp c2), if_neg (Int32.not_lt.mpr c40), if_neg (Int32.not_lt.mpr c40), if_pos c11]; done) | (rw [if_pos (Int32.not_le.mp c2), if_pos (Int32.not_le.mp c2), if_neg (Int32.not_lt.mpr c40), if_neg (Int32.not_lt.mpr c40), if_neg c11]; done) | (rw [if_pos (Int32.not_le.mp c2), if_pos (Int32.not_le.mp c2), if_pos (Int32.not_le.mp c40), if_pos (Int32.not_le.mp c40), if_pos c11]; done) | (rw [if_pos (Int32.not_le.mp c2), if_pos (Int32.not_le.mp c2), if_pos (Int32.not_le.mp c40), if_pos (Int32.not_le.mp c40), if_neg c11]; done)
      rw [hw9] at hP hD
      exact W.vret hx hb hr (fun t ht hW => ⟨⟨(), rfl, trivial, by rw [ht]; exact hP, by rw [hAe]; exact hD⟩, by rw [hAe]; exact hS.F ht⟩) hS.2.2 dX0_note_53
    · refine lv_aload_n hx hb dX0_note_43 rfl (lv_at hl 0 rfl) ?_
      refine lv_iload_n hx hb dX0_note_44 rfl (lv_at hl 2 rfl) ?_
      refine va_put (D := D) (ci := 0) (v := .int d) (ty := .int) (C := RX0) (T := TX0) (N := 4) hx hb hts (by decide +kernel) tyX0 tyX0_ok nmX0 hown hK hP hD hS 0 rfl rfl 2 (by decide) (hts (.fieldLink RX0 18 "FiberTrace$Comparison" "greatest" "I") (by decide +kernel)) (fun _ h9 => h9) rfl (by decide +kernel) rfl rfl (Nat.le_of_ble_eq_true rfl) dX0_note_45 (fun H locs hP hD hS => ?_)
      have hP : va_P D vwCl [(a0, .inr (0, [.int q.1, .int q.2.1, .int d, .int q.2.2.2]))] H := hP
      have hD : va_D A [(a0, .inr (0, [.int q.1, .int q.2.1, .int d, .int q.2.2.2]))] := hD
      refine lv_aload_n hx hb dX0_note_48 rfl (lv_at hl 0 rfl) ?_
      refine lv_iload_n hx hb dX0_note_49 rfl (lv_at hl 1 rfl) ?_
      refine va_put (D := D) (ci := 0) (v := .int x) (ty := .int) (C := RX0) (T := TX0) (N := 4) hx hb hts (by decide +kernel) tyX0 tyX0_ok nmX0 hown hK hP hD hS 0 rfl rfl 3 (by decide) (hts (.fieldLink RX0 21 "FiberTrace$Comparison" "greatestPlace" "I") (by decide +kernel)) (fun _ h9 => h9) rfl (by decide +kernel) rfl rfl (Nat.le_of_ble_eq_true rfl) dX0_note_50 (fun H locs hP hD hS => ?_)
      have hP : va_P D vwCl [(a0, .inr (0, [.int q.1, .int q.2.1, .int d, .int x]))] H := hP
      have hD : va_D A [(a0, .inr (0, [.int q.1, .int q.2.1, .int d, .int x]))] := hD
      have hw9 : ([(a0, .inr (0, [.int q.1, .int q.2.1, .int d, .int x]))] : va_W) = [(a0, .inr (0, [.int ((ftNote q x d li).1), .int ((ftNote q x d li).2.1), .int ((ftNote q x d li).2.2.1), .int ((ftNote q x d li).2.2.2)]))] := by unfold ftNote; first | (rw [if_neg (Int32.not_lt.mpr c2), if_neg (Int32.not_lt.mpr c2), if_neg (Int32.not_lt.mpr c40), if_neg (Int32.not_lt.mpr c40)]; done) | (rw [if_neg (Int32.not_lt.mpr c2), if_neg (Int32.not_lt.mpr c2), if_pos (Int32.not_le.mp c40), if_pos (Int32.not_le.mp c40)]; done) | (rw [if_pos (Int32.not_le.mp c2), if_pos (Int32.not_le.mp c2), if_neg (Int32.not_lt.mpr c40), if_neg (Int32.not_lt.mpr c40), if_pos c11]; done) | (rw [if_pos (Int32.not_le.mp c2), if_pos (Int32.not_le.mp c2), if_neg (Int32.not_lt.mpr c40), if_neg (Int32.not_lt.mpr c40), if_neg c11]; done) | (rw [if_pos (Int32.not_le.mp c2), if_pos (Int32.not_le.mp c2), if_pos (Int32.not_le.mp c40), if_pos (Int32.not_le.mp c40), if_pos c11]; done) | (rw [if_pos (Int32.not_le.mp c2), if_pos (Int32.not_le.mp c2), if_pos (Int32.not_le.mp c40), if_pos (Int32.not_le.mp c40), if_neg c11]; done)
      rw [hw9] at hP hD
      exact W.vret hx hb hr (fun t ht hW => ⟨⟨(), rfl, trivial, by rw [ht]; exact hP, by rw [hAe]; exact hD⟩, by rw [hAe]; exact hS.F ht⟩) hS.2.2 dX0_note_53
  · refine lv_aload_n hx hb dX0_note_5 rfl (lv_at hl 0 rfl) ?_
    refine lv_aload_n hx hb dX0_note_6 rfl (lv_at hl 0 rfl) ?_
    refine va_get (D := D) (ci := 0) (v := .int q.1) (C := RX0) (T := TX0) (N := 4) hx hb hts (by decide +kernel) hown hK hP 0 rfl rfl 0 (by decide) (hts (.fieldLink RX0 9 "FiberTrace$Comparison" "firstPlace" "I") (by decide +kernel)) (fun _ h9 => h9) rfl dX0_note_7 ?_
    refine lv_iconst (v := (-1)) hx hb dX0_note_10 (by decide) ?_
    refine lv_icmp_ne (tgt := 18) hx hb dX0_note_11 (by decide) (fun c11 => ?_) (fun c11 => ?_)
    · refine lv_aload_n hx hb dX0_note_18 rfl (lv_at hl 0 rfl) ?_
      refine va_get (D := D) (ci := 0) (v := .int q.1) (C := RX0) (T := TX0) (N := 4) hx hb hts (by decide +kernel) hown hK hP 0 rfl rfl 0 (by decide) (hts (.fieldLink RX0 9 "FiberTrace$Comparison" "firstPlace" "I") (by decide +kernel)) (fun _ h9 => h9) rfl dX0_note_19 ?_
      refine va_put (D := D) (ci := 0) (v := .int q.1) (ty := .int) (C := RX0) (T := TX0) (N := 4) hx hb hts (by decide +kernel) tyX0 tyX0_ok nmX0 hown hK hP hD hS 0 rfl rfl 0 (by decide) (hts (.fieldLink RX0 9 "FiberTrace$Comparison" "firstPlace" "I") (by decide +kernel)) (fun _ h9 => h9) rfl (by decide +kernel) rfl rfl (Nat.le_of_ble_eq_true rfl) dX0_note_22 (fun H locs hP hD hS => ?_)
      have hP : va_P D vwCl [(a0, .inr (0, [.int q.1, .int q.2.1, .int q.2.2.1, .int q.2.2.2]))] H := hP
      have hD : va_D A [(a0, .inr (0, [.int q.1, .int q.2.1, .int q.2.2.1, .int q.2.2.2]))] := hD
      refine lv_aload_n hx hb dX0_note_25 rfl (lv_at hl 0 rfl) ?_
      refine lv_dup hx hb dX0_note_26 rfl ?_
      refine va_get (D := D) (ci := 0) (v := .int q.2.1) (C := RX0) (T := TX0) (N := 4) hx hb hts (by decide +kernel) hown hK hP 0 rfl rfl 1 (by decide) (hts (.fieldLink RX0 15 "FiberTrace$Comparison" "places" "I") (by decide +kernel)) (fun _ h9 => h9) rfl dX0_note_27 ?_
      refine lv_iconst (v := 1) hx hb dX0_note_30 (by decide) ?_
      refine lv_iadd hx hb dX0_note_31 ?_
      refine va_put (D := D) (ci := 0) (v := .int (q.2.1 + 1)) (ty := .int) (C := RX0) (T := TX0) (N := 4) hx hb hts (by decide +kernel) tyX0 tyX0_ok nmX0 hown hK hP hD hS 0 rfl rfl 1 (by decide) (hts (.fieldLink RX0 15 "FiberTrace$Comparison" "places" "I") (by decide +kernel)) (fun _ h9 => h9) rfl (by decide +kernel) rfl rfl (Nat.le_of_ble_eq_true rfl) dX0_note_32 (fun H locs hP hD hS => ?_)
      have hP : va_P D vwCl [(a0, .inr (0, [.int q.1, .int (q.2.1 + 1), .int q.2.2.1, .int q.2.2.2]))] H := hP
      have hD : va_D A [(a0, .inr (0, [.int q.1, .int (q.2.1 + 1), .int q.2.2.1, .int q.2.2.2]))] := hD
      refine lv_iload_n hx hb dX0_note_35 rfl (lv_at hl 2 rfl) ?_
      refine lv_aload_n hx hb dX0_note_36 rfl (lv_at hl 0 rfl) ?_
      refine va_get (D := D) (ci := 0) (v := .int q.2.2.1) (C := RX0) (T := TX0) (N := 4) hx hb hts (by decide +kernel) hown hK hP 0 rfl rfl 2 (by decide) (hts (.fieldLink RX0 18 "FiberTrace$Comparison" "greatest" "I") (by decide +kernel)) (fun _ h9 => h9) rfl dX0_note_37 ?_
      refine lv_icmp_le (tgt := 53) hx hb dX0_note_40 (by decide) (fun c40 => ?_) (fun c40 => ?_)
      · have hw9 : ([(a0, .inr (0, [.int q.1, .int (q.2.1 + 1), .int q.2.2.1, .int q.2.2.2]))] : va_W) = [(a0, .inr (0, [.int ((ftNote q x d li).1), .int ((ftNote q x d li).2.1), .int ((ftNote q x d li).2.2.1), .int ((ftNote q x d li).2.2.2)]))] := by unfold ftNote; first | (rw [if_neg (Int32.not_lt.mpr c2), if_neg (Int32.not_lt.mpr c2), if_neg (Int32.not_lt.mpr c40), if_neg (Int32.not_lt.mpr c40)]; done) | (rw [if_neg (Int32.not_lt.mpr c2), if_neg (Int32.not_lt.mpr c2), if_pos (Int32.not_le.mp c40), if_pos (Int32.not_le.mp c40)]; done) | (rw [if_pos (Int32.not_le.mp c2), if_pos (Int32.not_le.mp c2), if_neg (Int32.not_lt.mpr c40), if_neg (Int32.not_lt.mpr c40), if_pos c11]; done) | (rw [if_pos (Int32.not_le.mp c2), if_pos (Int32.not_le.mp c2), if_neg (Int32.not_lt.mpr c40), if_neg (Int32.not_lt.mpr c40), if_neg c11]; done) | (rw [if_pos (Int32.not_le.mp c2), if_pos (Int32.not_le.mp c2), if_pos (Int32.not_le.mp c40), if_pos (Int32.not_le.mp c40), if_pos c11]; done) | (rw [if_pos (Int32.not_le.mp c2), if_pos (Int32.not_le.mp c2), if_pos (Int32.not_le.mp c40), if_pos (Int32.not_le.mp c40), if_neg c11]; done)
        rw [hw9] at hP hD
        exact W.vret hx hb hr (fun t ht hW => ⟨⟨(), rfl, trivial, by rw [ht]; exact hP, by rw [hAe]; exact hD⟩, by rw [hAe]; exact hS.F ht⟩) hS.2.2 dX0_note_53
      · refine lv_aload_n hx hb dX0_note_43 rfl (lv_at hl 0 rfl) ?_
        refine lv_iload_n hx hb dX0_note_44 rfl (lv_at hl 2 rfl) ?_
        refine va_put (D := D) (ci := 0) (v := .int d) (ty := .int) (C := RX0) (T := TX0) (N := 4) hx hb hts (by decide +kernel) tyX0 tyX0_ok nmX0 hown hK hP hD hS 0 rfl rfl 2 (by decide) (hts (.fieldLink RX0 18 "FiberTrace$Comparison" "greatest" "I") (by decide +kernel)) (fun _ h9 => h9) rfl (by decide +kernel) rfl rfl (Nat.le_of_ble_eq_true rfl) dX0_note_45 (fun H locs hP hD hS => ?_)
        have hP : va_P D vwCl [(a0, .inr (0, [.int q.1, .int (q.2.1 + 1), .int d, .int q.2.2.2]))] H := hP
        have hD : va_D A [(a0, .inr (0, [.int q.1, .int (q.2.1 + 1), .int d, .int q.2.2.2]))] := hD
        refine lv_aload_n hx hb dX0_note_48 rfl (lv_at hl 0 rfl) ?_
        refine lv_iload_n hx hb dX0_note_49 rfl (lv_at hl 1 rfl) ?_
        refine va_put (D := D) (ci := 0) (v := .int x) (ty := .int) (C := RX0) (T := TX0) (N := 4) hx hb hts (by decide +kernel) tyX0 tyX0_ok nmX0 hown hK hP hD hS 0 rfl rfl 3 (by decide) (hts (.fieldLink RX0 21 "FiberTrace$Comparison" "greatestPlace" "I") (by decide +kernel)) (fun _ h9 => h9) rfl (by decide +kernel) rfl rfl (Nat.le_of_ble_eq_true rfl) dX0_note_50 (fun H locs hP hD hS => ?_)
        have hP : va_P D vwCl [(a0, .inr (0, [.int q.1, .int (q.2.1 + 1), .int d, .int x]))] H := hP
        have hD : va_D A [(a0, .inr (0, [.int q.1, .int (q.2.1 + 1), .int d, .int x]))] := hD
        have hw9 : ([(a0, .inr (0, [.int q.1, .int (q.2.1 + 1), .int d, .int x]))] : va_W) = [(a0, .inr (0, [.int ((ftNote q x d li).1), .int ((ftNote q x d li).2.1), .int ((ftNote q x d li).2.2.1), .int ((ftNote q x d li).2.2.2)]))] := by unfold ftNote; first | (rw [if_neg (Int32.not_lt.mpr c2), if_neg (Int32.not_lt.mpr c2), if_neg (Int32.not_lt.mpr c40), if_neg (Int32.not_lt.mpr c40)]; done) | (rw [if_neg (Int32.not_lt.mpr c2), if_neg (Int32.not_lt.mpr c2), if_pos (Int32.not_le.mp c40), if_pos (Int32.not_le.mp c40)]; done) | (rw [if_pos (Int32.not_le.mp c2), if_pos (Int32.not_le.mp c2), if_neg (Int32.not_lt.mpr c40), if_neg (Int32.not_lt.mpr c40), if_pos c11]; done) | (rw [if_pos (Int32.not_le.mp c2), if_pos (Int32.not_le.mp c2), if_neg (Int32.not_lt.mpr c40), if_neg (Int32.not_lt.mpr c40), if_neg c11]; done) | (rw [if_pos (Int32.not_le.mp c2), if_pos (Int32.not_le.mp c2), if_pos (Int32.not_le.mp c40), if_pos (Int32.not_le.mp c40), if_pos c11]; done) | (rw [if_pos (Int32.not_le.mp c2), if_pos (Int32.not_le.mp c2), if_pos (Int32.not_le.mp c40), if_pos (Int32.not_le.mp c40), if_neg c11]; done)
        rw [hw9] at hP hD
        exact W.vret hx hb hr (fun t ht hW => ⟨⟨(), rfl, trivial, by rw [ht]; exact hP, by rw [hAe]; exact hD⟩, by rw [hAe]; exact hS.F ht⟩) hS.2.2 dX0_note_53
    · refine lv_iload_n hx hb dX0_note_14 rfl (lv_at hl 1 rfl) ?_
      refine lv_goto (tgt := 22) hx hb dX0_note_15 (by decide) ?_
      refine va_put (D := D) (ci := 0) (v := .int x) (ty := .int) (C := RX0) (T := TX0) (N := 4) hx hb hts (by decide +kernel) tyX0 tyX0_ok nmX0 hown hK hP hD hS 0 rfl rfl 0 (by decide) (hts (.fieldLink RX0 9 "FiberTrace$Comparison" "firstPlace" "I") (by decide +kernel)) (fun _ h9 => h9) rfl (by decide +kernel) rfl rfl (Nat.le_of_ble_eq_true rfl) dX0_note_22 (fun H locs hP hD hS => ?_)
      have hP : va_P D vwCl [(a0, .inr (0, [.int x, .int q.2.1, .int q.2.2.1, .int q.2.2.2]))] H := hP
      have hD : va_D A [(a0, .inr (0, [.int x, .int q.2.1, .int q.2.2.1, .int q.2.2.2]))] := hD
      refine lv_aload_n hx hb dX0_note_25 rfl (lv_at hl 0 rfl) ?_
      refine lv_dup hx hb dX0_note_26 rfl ?_
      refine va_get (D := D) (ci := 0) (v := .int q.2.1) (C := RX0) (T := TX0) (N := 4) hx hb hts (by decide +kernel) hown hK hP 0 rfl rfl 1 (by decide) (hts (.fieldLink RX0 15 "FiberTrace$Comparison" "places" "I") (by decide +kernel)) (fun _ h9 => h9) rfl dX0_note_27 ?_
      refine lv_iconst (v := 1) hx hb dX0_note_30 (by decide) ?_
      refine lv_iadd hx hb dX0_note_31 ?_
      refine va_put (D := D) (ci := 0) (v := .int (q.2.1 + 1)) (ty := .int) (C := RX0) (T := TX0) (N := 4) hx hb hts (by decide +kernel) tyX0 tyX0_ok nmX0 hown hK hP hD hS 0 rfl rfl 1 (by decide) (hts (.fieldLink RX0 15 "FiberTrace$Comparison" "places" "I") (by decide +kernel)) (fun _ h9 => h9) rfl (by decide +kernel) rfl rfl (Nat.le_of_ble_eq_true rfl) dX0_note_32 (fun H locs hP hD hS => ?_)
      have hP : va_P D vwCl [(a0, .inr (0, [.int x, .int (q.2.1 + 1), .int q.2.2.1, .int q.2.2.2]))] H := hP
      have hD : va_D A [(a0, .inr (0, [.int x, .int (q.2.1 + 1), .int q.2.2.1, .int q.2.2.2]))] := hD
      refine lv_iload_n hx hb dX0_note_35 rfl (lv_at hl 2 rfl) ?_
      refine lv_aload_n hx hb dX0_note_36 rfl (lv_at hl 0 rfl) ?_
      refine va_get (D := D) (ci := 0) (v := .int q.2.2.1) (C := RX0) (T := TX0) (N := 4) hx hb hts (by decide +kernel) hown hK hP 0 rfl rfl 2 (by decide) (hts (.fieldLink RX0 18 "FiberTrace$Comparison" "greatest" "I") (by decide +kernel)) (fun _ h9 => h9) rfl dX0_note_37 ?_
      refine lv_icmp_le (tgt := 53) hx hb dX0_note_40 (by decide) (fun c40 => ?_) (fun c40 => ?_)
      · have hw9 : ([(a0, .inr (0, [.int x, .int (q.2.1 + 1), .int q.2.2.1, .int q.2.2.2]))] : va_W) = [(a0, .inr (0, [.int ((ftNote q x d li).1), .int ((ftNote q x d li).2.1), .int ((ftNote q x d li).2.2.1), .int ((ftNote q x d li).2.2.2)]))] := by unfold ftNote; first | (rw [if_neg (Int32.not_lt.mpr c2), if_neg (Int32.not_lt.mpr c2), if_neg (Int32.not_lt.mpr c40), if_neg (Int32.not_lt.mpr c40)]; done) | (rw [if_neg (Int32.not_lt.mpr c2), if_neg (Int32.not_lt.mpr c2), if_pos (Int32.not_le.mp c40), if_pos (Int32.not_le.mp c40)]; done) | (rw [if_pos (Int32.not_le.mp c2), if_pos (Int32.not_le.mp c2), if_neg (Int32.not_lt.mpr c40), if_neg (Int32.not_lt.mpr c40), if_pos c11]; done) | (rw [if_pos (Int32.not_le.mp c2), if_pos (Int32.not_le.mp c2), if_neg (Int32.not_lt.mpr c40), if_neg (Int32.not_lt.mpr c40), if_neg c11]; done) | (rw [if_pos (Int32.not_le.mp c2), if_pos (Int32.not_le.mp c2), if_pos (Int32.not_le.mp c40), if_pos (Int32.not_le.mp c40), if_pos c11]; done) | (rw [if_pos (Int32.not_le.mp c2), if_pos (Int32.not_le.mp c2), if_pos (Int32.not_le.mp c40), if_pos (Int32.not_le.mp c40), if_neg c11]; done)
        rw [hw9] at hP hD
        exact W.vret hx hb hr (fun t ht hW => ⟨⟨(), rfl, trivial, by rw [ht]; exact hP, by rw [hAe]; exact hD⟩, by rw [hAe]; exact hS.F ht⟩) hS.2.2 dX0_note_53
      · refine lv_aload_n hx hb dX0_note_43 rfl (lv_at hl 0 rfl) ?_
        refine lv_iload_n hx hb dX0_note_44 rfl (lv_at hl 2 rfl) ?_
        refine va_put (D := D) (ci := 0) (v := .int d) (ty := .int) (C := RX0) (T := TX0) (N := 4) hx hb hts (by decide +kernel) tyX0 tyX0_ok nmX0 hown hK hP hD hS 0 rfl rfl 2 (by decide) (hts (.fieldLink RX0 18 "FiberTrace$Comparison" "greatest" "I") (by decide +kernel)) (fun _ h9 => h9) rfl (by decide +kernel) rfl rfl (Nat.le_of_ble_eq_true rfl) dX0_note_45 (fun H locs hP hD hS => ?_)
        have hP : va_P D vwCl [(a0, .inr (0, [.int x, .int (q.2.1 + 1), .int d, .int q.2.2.2]))] H := hP
        have hD : va_D A [(a0, .inr (0, [.int x, .int (q.2.1 + 1), .int d, .int q.2.2.2]))] := hD
        refine lv_aload_n hx hb dX0_note_48 rfl (lv_at hl 0 rfl) ?_
        refine lv_iload_n hx hb dX0_note_49 rfl (lv_at hl 1 rfl) ?_
        refine va_put (D := D) (ci := 0) (v := .int x) (ty := .int) (C := RX0) (T := TX0) (N := 4) hx hb hts (by decide +kernel) tyX0 tyX0_ok nmX0 hown hK hP hD hS 0 rfl rfl 3 (by decide) (hts (.fieldLink RX0 21 "FiberTrace$Comparison" "greatestPlace" "I") (by decide +kernel)) (fun _ h9 => h9) rfl (by decide +kernel) rfl rfl (Nat.le_of_ble_eq_true rfl) dX0_note_50 (fun H locs hP hD hS => ?_)
        have hP : va_P D vwCl [(a0, .inr (0, [.int x, .int (q.2.1 + 1), .int d, .int x]))] H := hP
        have hD : va_D A [(a0, .inr (0, [.int x, .int (q.2.1 + 1), .int d, .int x]))] := hD
        have hw9 : ([(a0, .inr (0, [.int x, .int (q.2.1 + 1), .int d, .int x]))] : va_W) = [(a0, .inr (0, [.int ((ftNote q x d li).1), .int ((ftNote q x d li).2.1), .int ((ftNote q x d li).2.2.1), .int ((ftNote q x d li).2.2.2)]))] := by unfold ftNote; first | (rw [if_neg (Int32.not_lt.mpr c2), if_neg (Int32.not_lt.mpr c2), if_neg (Int32.not_lt.mpr c40), if_neg (Int32.not_lt.mpr c40)]; done) | (rw [if_neg (Int32.not_lt.mpr c2), if_neg (Int32.not_lt.mpr c2), if_pos (Int32.not_le.mp c40), if_pos (Int32.not_le.mp c40)]; done) | (rw [if_pos (Int32.not_le.mp c2), if_pos (Int32.not_le.mp c2), if_neg (Int32.not_lt.mpr c40), if_neg (Int32.not_lt.mpr c40), if_pos c11]; done) | (rw [if_pos (Int32.not_le.mp c2), if_pos (Int32.not_le.mp c2), if_neg (Int32.not_lt.mpr c40), if_neg (Int32.not_lt.mpr c40), if_neg c11]; done) | (rw [if_pos (Int32.not_le.mp c2), if_pos (Int32.not_le.mp c2), if_pos (Int32.not_le.mp c40), if_pos (Int32.not_le.mp c40), if_pos c11]; done) | (rw [if_pos (Int32.not_le.mp c2), if_pos (Int32.not_le.mp c2), if_pos (Int32.not_le.mp c40), if_pos (Int32.not_le.mp c40), if_neg c11]; done)
        rw [hw9] at hP hD
        exact W.vret hx hb hr (fun t ht hW => ⟨⟨(), rfl, trivial, by rw [ht]; exact hP, by rw [hAe]; exact hD⟩, by rw [hAe]; exact hS.F ht⟩) hS.2.2 dX0_note_53
set_option maxHeartbeats 4000000 in
set_option maxRecDepth 100000 in
theorem c_X0_make (l : Launch) (D : va_G) (cI cS : ClassId) (sz : Nat) (q0 : Nat) (o1 o2 o3 o4 : Int32) (a0 ab ap an as N : Nat) (d1 d2 d3 d4 : Int32) (fs : Nat → Int32) (k0 ks kz : Nat) (kf zf : Nat → Int32) (ka : Nat) (li : Int32) (M : Nat) (hka : ka < 2 ^ 31) (hN : N ≤ 460) (hM : M ≤ 460) (hz : zf (ka % 8) = nI M) : Met l yX0_make wsX0_make ({ frames := 2, cells := 0, slots := 0, locals := 44 }) (ftRW D cI cS [.ref q0, .ref a0, .ref k0, .int (nI ka), .int li] [(q0, .inr (0, [.int o1, .int o2, .int o3, .int o4])), (a0, .inr (9, [.ref ab, .ref ap, .ref an, .ref as, .int (nI N), .int d1, .int d2, .int d3, .int d4])), (as, .inl (cI, 460, .inl fs)), (k0, .inr (3, [.ref ks, .ref kz])), (ks, .inl (cI, 3680, .inl kf)), (kz, .inl (cI, 8, .inl zf))] sz) (ftQv D [(q0, .inr (0, [.int o1, .int o2, .int o3, .int o4])), (a0, .inr (9, [.ref ab, .ref ap, .ref an, .ref as, .int (nI N), .int d1, .int d2, .int d3, .int d4])), (as, .inl (cI, 460, .inl fs)), (k0, .inr (3, [.ref ks, .ref kz])), (ks, .inl (cI, 3680, .inl kf)), (kz, .inl (cI, 8, .inl zf))] [(q0, .inr (0, [.int ((ftComp fs (fun x => kf ((ka % 8) * 460 + x)) li (min N M)).1), .int ((ftComp fs (fun x => kf ((ka % 8) * 460 + x)) li (min N M)).2.1), .int ((ftComp fs (fun x => kf ((ka % 8) * 460 + x)) li (min N M)).2.2.1), .int ((ftComp fs (fun x => kf ((ka % 8) * 460 + x)) li (min N M)).2.2.2)])), (a0, .inr (9, [.ref ab, .ref ap, .ref an, .ref as, .int (nI N), .int d1, .int d2, .int d3, .int d4])), (as, .inl (cI, 460, .inl fs)), (k0, .inr (3, [.ref ks, .ref kz])), (ks, .inl (cI, 3680, .inl kf)), (kz, .inl (cI, 8, .inl zf))] sz) 0 0 (va_A [(q0, .inr (0, [.int o1, .int o2, .int o3, .int o4])), (a0, .inr (9, [.ref ab, .ref ap, .ref an, .ref as, .int (nI N), .int d1, .int d2, .int d3, .int d4])), (as, .inl (cI, 460, .inl fs)), (k0, .inr (3, [.ref ks, .ref kz])), (ks, .inl (cI, 3680, .inl kf)), (kz, .inl (cI, 8, .inl zf))] sz) := by
  refine Met.ofW (cc := cX0_make) (maxL := 7) (ret := none) (by decide) rfl ?_
  intro p e s m args below meth c s₁ B hml hv
  obtain ⟨rfl, hsz, hP, hKK, hD0⟩ := hv
  have hK := hKK.1
  have hx := B.exec
  have hb := B.bytes
  have hr := B.returns
  have hts := atoms_spec (ws := wsX0_make) B.pre
  have hown : s.vm.findClass RX0 = some m.cls := findClass_of_methodNamed B.named
  have hlocks := B.notSynchronized
  subst hsz
  have hD := hD0.self (sz := s.heap.size)
  generalize hAe : va_A [(q0, .inr (0, [.int o1, .int o2, .int o3, .int o4])), (a0, .inr (9, [.ref ab, .ref ap, .ref an, .ref as, .int (nI N), .int d1, .int d2, .int d3, .int d4])), (as, .inl (cI, 460, .inl fs)), (k0, .inr (3, [.ref ks, .ref kz])), (ks, .inl (cI, 3680, .inl kf)), (kz, .inl (cI, 8, .inl zf))] s.heap.size = A at hD ⊢
  have hA : ∀ q : Nat, s.heap.size ≤ q → A q := fun q h => by rw [← hAe]; exact Or.inr h
  have hS : va_S A s.heap s.heap [] := va_S.rf
  have hD : va_D A [(q0, .inr (0, [.int o1, .int o2, .int o3, .int o4])), (a0, .inr (9, [.ref ab, .ref ap, .ref an, .ref as, .int (nI N), .int d1, .int d2, .int d3, .int d4])), (as, .inl (cI, 460, .inl fs)), (k0, .inr (3, [.ref ks, .ref kz])), (ks, .inl (cI, 3680, .inl kf)), (kz, .inl (cI, 8, .inl zf))] := hD
  have hP : va_P D vwCl [(q0, .inr (0, [.int o1, .int o2, .int o3, .int o4])), (a0, .inr (9, [.ref ab, .ref ap, .ref an, .ref as, .int (nI N), .int d1, .int d2, .int d3, .int d4])), (as, .inl (cI, 460, .inl fs)), (k0, .inr (3, [.ref ks, .ref kz])), (ks, .inl (cI, 3680, .inl kf)), (kz, .inl (cI, 8, .inl zf))] s.heap := hP
  have hl := lv_entry ([.ref q0, .ref a0, .ref k0, .int (nI ka), .int li]) (n := 7) (Nat.le_of_ble_eq_true rfl)
  rw [lg_entry_eq]
  generalize (lg_sl ([.ref q0, .ref a0, .ref k0, .int (nI ka), .int li]) ++ List.replicate (7 - (lg_sl ([.ref q0, .ref a0, .ref k0, .int (nI ka), .int li])).length) Slot.unset).toArray = ls at hl ⊢
  have hl : lv_has ls 7 [(0, .ref q0), (1, .ref a0), (2, .ref k0), (3, .int (nI ka)), (4, .int li)] := hl
  refine lv_aload_n hx hb dX0_make_0 rfl (lv_at hl 0 rfl) ?_
  refine lv_iconst (v := (-1)) hx hb dX0_make_1 (by decide) ?_
  refine va_put (D := D) (ci := 0) (v := .int (-1)) (ty := .int) (C := RX0) (T := TX0) (N := 4) hx hb hts (by decide +kernel) tyX0 tyX0_ok nmX0 hown hK hP hD hS 0 rfl rfl 0 (by decide) (hts (.fieldLink RX0 9 "FiberTrace$Comparison" "firstPlace" "I") (by decide +kernel)) (fun _ h9 => h9) rfl (by decide +kernel) rfl rfl (Nat.le_of_ble_eq_true rfl) dX0_make_2 (fun H locs hP hD hS => ?_)
  have hP : va_P D vwCl [(q0, .inr (0, [.int (-1), .int o2, .int o3, .int o4])), (a0, .inr (9, [.ref ab, .ref ap, .ref an, .ref as, .int (nI N), .int d1, .int d2, .int d3, .int d4])), (as, .inl (cI, 460, .inl fs)), (k0, .inr (3, [.ref ks, .ref kz])), (ks, .inl (cI, 3680, .inl kf)), (kz, .inl (cI, 8, .inl zf))] H := hP
  have hD : va_D A [(q0, .inr (0, [.int (-1), .int o2, .int o3, .int o4])), (a0, .inr (9, [.ref ab, .ref ap, .ref an, .ref as, .int (nI N), .int d1, .int d2, .int d3, .int d4])), (as, .inl (cI, 460, .inl fs)), (k0, .inr (3, [.ref ks, .ref kz])), (ks, .inl (cI, 3680, .inl kf)), (kz, .inl (cI, 8, .inl zf))] := hD
  refine lv_aload_n hx hb dX0_make_5 rfl (lv_at hl 0 rfl) ?_
  refine lv_iconst (v := 0) hx hb dX0_make_6 (by decide) ?_
  refine va_put (D := D) (ci := 0) (v := .int 0) (ty := .int) (C := RX0) (T := TX0) (N := 4) hx hb hts (by decide +kernel) tyX0 tyX0_ok nmX0 hown hK hP hD hS 0 rfl rfl 1 (by decide) (hts (.fieldLink RX0 15 "FiberTrace$Comparison" "places" "I") (by decide +kernel)) (fun _ h9 => h9) rfl (by decide +kernel) rfl rfl (Nat.le_of_ble_eq_true rfl) dX0_make_7 (fun H locs hP hD hS => ?_)
  have hP : va_P D vwCl [(q0, .inr (0, [.int (-1), .int 0, .int o3, .int o4])), (a0, .inr (9, [.ref ab, .ref ap, .ref an, .ref as, .int (nI N), .int d1, .int d2, .int d3, .int d4])), (as, .inl (cI, 460, .inl fs)), (k0, .inr (3, [.ref ks, .ref kz])), (ks, .inl (cI, 3680, .inl kf)), (kz, .inl (cI, 8, .inl zf))] H := hP
  have hD : va_D A [(q0, .inr (0, [.int (-1), .int 0, .int o3, .int o4])), (a0, .inr (9, [.ref ab, .ref ap, .ref an, .ref as, .int (nI N), .int d1, .int d2, .int d3, .int d4])), (as, .inl (cI, 460, .inl fs)), (k0, .inr (3, [.ref ks, .ref kz])), (ks, .inl (cI, 3680, .inl kf)), (kz, .inl (cI, 8, .inl zf))] := hD
  refine lv_aload_n hx hb dX0_make_10 rfl (lv_at hl 0 rfl) ?_
  refine lv_iconst (v := 0) hx hb dX0_make_11 (by decide) ?_
  refine va_put (D := D) (ci := 0) (v := .int 0) (ty := .int) (C := RX0) (T := TX0) (N := 4) hx hb hts (by decide +kernel) tyX0 tyX0_ok nmX0 hown hK hP hD hS 0 rfl rfl 2 (by decide) (hts (.fieldLink RX0 18 "FiberTrace$Comparison" "greatest" "I") (by decide +kernel)) (fun _ h9 => h9) rfl (by decide +kernel) rfl rfl (Nat.le_of_ble_eq_true rfl) dX0_make_12 (fun H locs hP hD hS => ?_)
  have hP : va_P D vwCl [(q0, .inr (0, [.int (-1), .int 0, .int 0, .int o4])), (a0, .inr (9, [.ref ab, .ref ap, .ref an, .ref as, .int (nI N), .int d1, .int d2, .int d3, .int d4])), (as, .inl (cI, 460, .inl fs)), (k0, .inr (3, [.ref ks, .ref kz])), (ks, .inl (cI, 3680, .inl kf)), (kz, .inl (cI, 8, .inl zf))] H := hP
  have hD : va_D A [(q0, .inr (0, [.int (-1), .int 0, .int 0, .int o4])), (a0, .inr (9, [.ref ab, .ref ap, .ref an, .ref as, .int (nI N), .int d1, .int d2, .int d3, .int d4])), (as, .inl (cI, 460, .inl fs)), (k0, .inr (3, [.ref ks, .ref kz])), (ks, .inl (cI, 3680, .inl kf)), (kz, .inl (cI, 8, .inl zf))] := hD
  refine lv_aload_n hx hb dX0_make_15 rfl (lv_at hl 0 rfl) ?_
  refine lv_iconst (v := 0) hx hb dX0_make_16 (by decide) ?_
  refine va_put (D := D) (ci := 0) (v := .int 0) (ty := .int) (C := RX0) (T := TX0) (N := 4) hx hb hts (by decide +kernel) tyX0 tyX0_ok nmX0 hown hK hP hD hS 0 rfl rfl 3 (by decide) (hts (.fieldLink RX0 21 "FiberTrace$Comparison" "greatestPlace" "I") (by decide +kernel)) (fun _ h9 => h9) rfl (by decide +kernel) rfl rfl (Nat.le_of_ble_eq_true rfl) dX0_make_17 (fun H locs hP hD hS => ?_)
  have hP : va_P D vwCl [(q0, .inr (0, [.int (-1), .int 0, .int 0, .int 0])), (a0, .inr (9, [.ref ab, .ref ap, .ref an, .ref as, .int (nI N), .int d1, .int d2, .int d3, .int d4])), (as, .inl (cI, 460, .inl fs)), (k0, .inr (3, [.ref ks, .ref kz])), (ks, .inl (cI, 3680, .inl kf)), (kz, .inl (cI, 8, .inl zf))] H := hP
  have hD : va_D A [(q0, .inr (0, [.int (-1), .int 0, .int 0, .int 0])), (a0, .inr (9, [.ref ab, .ref ap, .ref an, .ref as, .int (nI N), .int d1, .int d2, .int d3, .int d4])), (as, .inl (cI, 460, .inl fs)), (k0, .inr (3, [.ref ks, .ref kz])), (ks, .inl (cI, 3680, .inl kf)), (kz, .inl (cI, 8, .inl zf))] := hD
  refine lv_aload_n hx hb dX0_make_20 rfl (lv_at hl 1 rfl) ?_
  refine va_get (D := D) (ci := 9) (v := .int (nI N)) (C := RX9) (T := TX9) (N := 9) hx hb hts (by decide +kernel) hown hK hP 1 rfl rfl 4 (by decide) (hts (.fieldLink RX0 24 "FiberTrace$Trace" "size" "I") (by decide +kernel)) (fun _ h9 => h9) rfl dX0_make_21 ?_
  refine lv_aload_n hx hb dX0_make_24 rfl (lv_at hl 2 rfl) ?_
  refine lv_iload_n hx hb dX0_make_25 rfl (lv_at hl 3 rfl) ?_
  refine ft_csi (r := zf (ka % 8)) (va_runV (C := RX3) (As := [.int (nI ka)]) (rest := [.int (nI N)]) ⟨hx, hb, hml, hown, hts⟩ (c_X3_sizeOf l D cI cS k0 ks kz zf ka (by first | assumption | omega)) (cwV 1 hts gX0_make_X3_sizeOf rfl rfl rfl (by decide +kernel) ⟨Nat.le_of_ble_eq_true rfl, Nat.le_of_ble_eq_true rfl⟩) (ft_preROV (ci := 3) (q0 := 3) hP hKK [3, 5] rfl rfl rfl) rfl rfl hl.1 rfl (lv_room (Nat.le_of_ble_eq_true rfl)) dX0_make_26 ⟨Nat.le_of_ble_eq_true rfl, Nat.le_of_ble_eq_true rfl⟩) ?_
  refine ft_top (y := nI M) hz ?_
  refine va_mmin hx hb (hml.trans hl.1.symm) hown (hts (.methodLink RX0 35 Lib.Math.min.name) (by decide +kernel)) (hts (.static Lib.Math.min.name) (by decide +kernel)) (hts (.initialized "java/lang/Math") (by decide +kernel)) (hts (.code Lib.Math.min.name Lib.Math.min.code 2 (some .int)) (by decide +kernel)) (Nat.le_of_ble_eq_true rfl) (Nat.le_of_ble_eq_true rfl) (Nat.le_of_ble_eq_true rfl) (Nat.le_of_ble_eq_true rfl) dX0_make_29 ?_
  refine ft_top (y := ftMin (nI N) (nI M)) rfl ?_
  refine ft_top (y := nI (min N M)) (ft_minN (by omega) (by omega)) ?_
  refine lv_istore (lv' := [(5, .int (nI (min N M))), (0, .ref q0), (1, .ref a0), (2, .ref k0), (3, .int (nI ka)), (4, .int li)]) hx hb dX0_make_32 hl (by decide) rfl (fun ls hl => ?_)
  refine lv_iconst (v := 0) hx hb dX0_make_34 (by decide) ?_
  refine lv_istore (lv' := [(6, .int 0), (5, .int (nI (min N M))), (0, .ref q0), (1, .ref a0), (2, .ref k0), (3, .int (nI ka)), (4, .int li)]) hx hb dX0_make_35 hl (by decide) rfl (fun ls hl => ?_)
  have lp37 : ∀ (n37 : Nat) (x : Nat) (q : ftCs) (x37_6 : Int32) (g37_q0_0 : Int32) (g37_q0_1 : Int32) (g37_q0_2 : Int32) (g37_q0_3 : Int32), min N M - x < n37 → (x ≤ min N M) → (q = ftComp fs (fun x => kf ((ka % 8) * 460 + x)) li x) → x37_6 = nI x → g37_q0_0 = q.1 → g37_q0_1 = q.2.1 → g37_q0_2 = q.2.2.1 → g37_q0_3 = q.2.2.2 → ∀ (H : Heap) (locs : List Loc), va_P D vwCl [(q0, .inr (0, [.int g37_q0_0, .int g37_q0_1, .int g37_q0_2, .int g37_q0_3])), (a0, .inr (9, [.ref ab, .ref ap, .ref an, .ref as, .int (nI N), .int d1, .int d2, .int d3, .int d4])), (as, .inl (cI, 460, .inl fs)), (k0, .inr (3, [.ref ks, .ref kz])), (ks, .inl (cI, 3680, .inl kf)), (kz, .inl (cI, 8, .inl zf))] H → va_D A [(q0, .inr (0, [.int g37_q0_0, .int g37_q0_1, .int g37_q0_2, .int g37_q0_3])), (a0, .inr (9, [.ref ab, .ref ap, .ref an, .ref as, .int (nI N), .int d1, .int d2, .int d3, .int d4])), (as, .inl (cI, 460, .inl fs)), (k0, .inr (3, [.ref ks, .ref kz])), (ks, .inl (cI, 3680, .inl kf)), (kz, .inl (cI, 8, .inl zf))] → va_S A s.heap H locs → ∀ ls : Array Slot, lv_has ls 7 [(0, .ref q0), (1, .ref a0), (2, .ref k0), (3, .int (nI ka)), (4, .int li), (5, .int (nI (min N M))), (6, .int x37_6)] → W p l e (headSpec wsX0_make { frames := 2, cells := 0, slots := 0, locals := 44 }).room s m ([.ref q0, .ref a0, .ref k0, .int (nI ka), .int li] : List Value).toArray below meth c H locs 0 0 (MQ below (ftQv D [(q0, .inr (0, [.int o1, .int o2, .int o3, .int o4])), (a0, .inr (9, [.ref ab, .ref ap, .ref an, .ref as, .int (nI N), .int d1, .int d2, .int d3, .int d4])), (as, .inl (cI, 460, .inl fs)), (k0, .inr (3, [.ref ks, .ref kz])), (ks, .inl (cI, 3680, .inl kf)), (kz, .inl (cI, 8, .inl zf))] [(q0, .inr (0, [.int ((ftComp fs (fun x => kf ((ka % 8) * 460 + x)) li (min N M)).1), .int ((ftComp fs (fun x => kf ((ka % 8) * 460 + x)) li (min N M)).2.1), .int ((ftComp fs (fun x => kf ((ka % 8) * 460 + x)) li (min N M)).2.2.1), .int ((ftComp fs (fun x => kf ((ka % 8) * 460 + x)) li (min N M)).2.2.2)])), (a0, .inr (9, [.ref ab, .ref ap, .ref an, .ref as, .int (nI N), .int d1, .int d2, .int d3, .int d4])), (as, .inl (cI, 460, .inl fs)), (k0, .inr (3, [.ref ks, .ref kz])), (ks, .inl (cI, 3680, .inl kf)), (kz, .inl (cI, 8, .inl zf))] s.heap.size) ([.ref q0, .ref a0, .ref k0, .int (nI ka), .int li] : List Value).toArray s 0 0 A) (F0 m 37 ls []) := by
    intro n37
    induction n37 with
    | zero =>
      intro x q x37_6 g37_q0_0 g37_q0_1 g37_q0_2 g37_q0_3 hm37
      exact absurd hm37 (Nat.not_lt_zero _)
    | succ n37 ih37 =>
      intro x q x37_6 g37_q0_0 g37_q0_1 g37_q0_2 g37_q0_3 hm37 hx0 hq ex37_6 eg37_q0_0 eg37_q0_1 eg37_q0_2 eg37_q0_3 H locs hP hD hS ls hl
      subst ex37_6
      subst eg37_q0_0
      subst eg37_q0_1
      subst eg37_q0_2
      subst eg37_q0_3
      refine lv_iload hx hb dX0_make_37 (lv_at hl 6 rfl) ?_
      refine lv_iload hx hb dX0_make_39 (lv_at hl 5 rfl) ?_
      refine lv_icmp_ge (tgt := 78) hx hb dX0_make_41 (by decide) (fun c41 => ?_) (fun c41 => ?_)
      · have c41n : (min N M) ≤ x := ft_leN (by omega) (by omega) c41
        have hw9 : ([(q0, .inr (0, [.int q.1, .int q.2.1, .int q.2.2.1, .int q.2.2.2])), (a0, .inr (9, [.ref ab, .ref ap, .ref an, .ref as, .int (nI N), .int d1, .int d2, .int d3, .int d4])), (as, .inl (cI, 460, .inl fs)), (k0, .inr (3, [.ref ks, .ref kz])), (ks, .inl (cI, 3680, .inl kf)), (kz, .inl (cI, 8, .inl zf))] : va_W) = [(q0, .inr (0, [.int ((ftComp fs (fun x => kf ((ka % 8) * 460 + x)) li (min N M)).1), .int ((ftComp fs (fun x => kf ((ka % 8) * 460 + x)) li (min N M)).2.1), .int ((ftComp fs (fun x => kf ((ka % 8) * 460 + x)) li (min N M)).2.2.1), .int ((ftComp fs (fun x => kf ((ka % 8) * 460 + x)) li (min N M)).2.2.2)])), (a0, .inr (9, [.ref ab, .ref ap, .ref an, .ref as, .int (nI N), .int d1, .int d2, .int d3, .int d4])), (as, .inl (cI, 460, .inl fs)), (k0, .inr (3, [.ref ks, .ref kz])), (ks, .inl (cI, 3680, .inl kf)), (kz, .inl (cI, 8, .inl zf))] := by (have h9 : x = min N M := by omega); rw [hq, h9]
        rw [hw9] at hP hD
        exact W.vret hx hb hr (fun t ht hW => ⟨⟨(), rfl, trivial, by rw [ht]; exact hP, by rw [hAe]; exact hD⟩, by rw [hAe]; exact hS.F ht⟩) hS.2.2 dX0_make_78
      · have c41n : x < (min N M) := ft_nleN (by omega) (by omega) c41
        refine lv_aload_n hx hb dX0_make_44 rfl (lv_at hl 0 rfl) ?_
        refine lv_iload hx hb dX0_make_45 (lv_at hl 6 rfl) ?_
        refine lv_aload_n hx hb dX0_make_47 rfl (lv_at hl 1 rfl) ?_
        refine va_get (D := D) (ci := 9) (v := .ref as) (C := RX9) (T := TX9) (N := 9) hx hb hts (by decide +kernel) hown hK hP 1 rfl rfl 3 (by decide) (hts (.fieldLink RX0 41 "FiberTrace$Trace" "samples" "[I") (by decide +kernel)) (fun _ h9 => h9) rfl dX0_make_48 ?_
        refine lv_iload hx hb dX0_make_51 (lv_at hl 6 rfl) ?_
        refine ft_csi (r := ftAt 460 fs (nI x)) (va_runSN (As := [.ref as, .int (nI x)]) (rest := [.int (nI x), .ref q0]) ⟨hx, hb, hml, hown, hts⟩ (c_X10_at l D cI cS as 460 fs (nI x) (by first | assumption | omega)) ⟨va_cnB 2 hts gX0_make_X10_at_n45 rfl rfl rfl (hKK.2 _ (List.mem_of_getElem? (i := 27) rfl)) (hts (.initialized RX10) (by decide +kernel)) (by decide +kernel) ⟨Nat.le_of_ble_eq_true rfl, Nat.le_of_ble_eq_true rfl⟩, hts (.static yX10_at) (by decide +kernel), trivial⟩ (ft_preRO hP hKK [2] rfl) rfl rfl hl.1 rfl (lv_room (Nat.le_of_ble_eq_true rfl)) dX0_make_53 ⟨Nat.le_of_ble_eq_true rfl, Nat.le_of_ble_eq_true rfl⟩) ?_
        refine ft_top (y := fs x) (ftAt_N (by omega) (by omega)) ?_
        refine lv_aload_n hx hb dX0_make_56 rfl (lv_at hl 2 rfl) ?_
        refine lv_iload_n hx hb dX0_make_57 rfl (lv_at hl 3 rfl) ?_
        refine lv_iload hx hb dX0_make_58 (lv_at hl 6 rfl) ?_
        refine ft_csi (r := kf ((ka % 8) * 460 + x)) (va_runV (C := RX3) (As := [.int (nI ka), .int (nI x)]) (rest := [.int (fs x), .int (nI x), .ref q0]) ⟨hx, hb, hml, hown, hts⟩ (c_X3_valueAt l D cI cS k0 ks kz kf ka x (by first | assumption | omega) (by first | assumption | omega)) (cwV 2 hts gX0_make_X3_valueAt rfl rfl rfl (by decide +kernel) ⟨Nat.le_of_ble_eq_true rfl, Nat.le_of_ble_eq_true rfl⟩) (ft_preROV (ci := 3) (q0 := 3) hP hKK [3, 4] rfl rfl rfl) rfl rfl hl.1 rfl (lv_room (Nat.le_of_ble_eq_true rfl)) dX0_make_60 ⟨Nat.le_of_ble_eq_true rfl, Nat.le_of_ble_eq_true rfl⟩) ?_
        refine lv_isub hx hb dX0_make_63 ?_
        refine va_mabs hx hb (hml.trans hl.1.symm) hown (hts (.methodLink RX0 52 Lib.Math.abs.name) (by decide +kernel)) (hts (.static Lib.Math.abs.name) (by decide +kernel)) (hts (.initialized "java/lang/Math") (by decide +kernel)) (hts (.code Lib.Math.abs.name Lib.Math.abs.code 1 (some .int)) (by decide +kernel)) (Nat.le_of_ble_eq_true rfl) (Nat.le_of_ble_eq_true rfl) (Nat.le_of_ble_eq_true rfl) (Nat.le_of_ble_eq_true rfl) dX0_make_64 ?_
        refine ft_top (y := ftAbs ((fs x) - (kf ((ka % 8) * 460 + x)))) rfl ?_
        refine lv_iload hx hb dX0_make_67 (lv_at hl 4 rfl) ?_
        refine ft_cv (wc := [(q0, .inr (0, [.int q.1, .int q.2.1, .int q.2.2.1, .int q.2.2.2]))]) (wr := [(a0, .inr (9, [.ref ab, .ref ap, .ref an, .ref as, .int (nI N), .int d1, .int d2, .int d3, .int d4])), (as, .inl (cI, 460, .inl fs)), (k0, .inr (3, [.ref ks, .ref kz])), (ks, .inl (cI, 3680, .inl kf)), (kz, .inl (cI, 8, .inl zf))]) (w1 := [(q0, .inr (0, [.int ((ftNote q (nI x) (ftAbs ((fs x) - (kf ((ka % 8) * 460 + x)))) li).1), .int ((ftNote q (nI x) (ftAbs ((fs x) - (kf ((ka % 8) * 460 + x)))) li).2.1), .int ((ftNote q (nI x) (ftAbs ((fs x) - (kf ((ka % 8) * 460 + x)))) li).2.2.1), .int ((ftNote q (nI x) (ftAbs ((fs x) - (kf ((ka % 8) * 460 + x)))) li).2.2.2)]))]) (ws1 := [(q0, .inr (0, [.int ((ftNote q (nI x) (ftAbs ((fs x) - (kf ((ka % 8) * 460 + x)))) li).1), .int ((ftNote q (nI x) (ftAbs ((fs x) - (kf ((ka % 8) * 460 + x)))) li).2.1), .int ((ftNote q (nI x) (ftAbs ((fs x) - (kf ((ka % 8) * 460 + x)))) li).2.2.1), .int ((ftNote q (nI x) (ftAbs ((fs x) - (kf ((ka % 8) * 460 + x)))) li).2.2.2)])), (a0, .inr (9, [.ref ab, .ref ap, .ref an, .ref as, .int (nI N), .int d1, .int d2, .int d3, .int d4])), (as, .inl (cI, 460, .inl fs)), (k0, .inr (3, [.ref ks, .ref kz])), (ks, .inl (cI, 3680, .inl kf)), (kz, .inl (cI, 8, .inl zf))]) (va_runV (C := RX0) (As := [.int (nI x), .int (ftAbs ((fs x) - (kf ((ka % 8) * 460 + x)))), .int li]) (rest := []) ⟨hx, hb, hml, hown, hts⟩ (c_X0_note l D cI cS H.size q0 q (nI x) (ftAbs ((fs x) - (kf ((ka % 8) * 460 + x)))) li) (cwV 3 hts gX0_make_X0_note rfl rfl rfl (by decide +kernel) ⟨Nat.le_of_ble_eq_true rfl, Nat.le_of_ble_eq_true rfl⟩) (ft_preRWV (ci := 0) (q0 := 0) hP hD hKK [0] rfl rfl rfl rfl rfl) rfl rfl hl.1 rfl (lv_room (Nat.le_of_ble_eq_true rfl)) dX0_make_69 ⟨Nat.le_of_ble_eq_true rfl, Nat.le_of_ble_eq_true rfl⟩) hP hD hS hA [0] [1, 2, 3, 4, 5] [5, 0, 1, 2, 3, 4] rfl rfl (by decide) (by decide) (by decide) rfl rfl (fun H locs hP hD hS => ?_)
        have hP : va_P D vwCl [(q0, .inr (0, [.int ((ftNote q (nI x) (ftAbs ((fs x) - (kf ((ka % 8) * 460 + x)))) li).1), .int ((ftNote q (nI x) (ftAbs ((fs x) - (kf ((ka % 8) * 460 + x)))) li).2.1), .int ((ftNote q (nI x) (ftAbs ((fs x) - (kf ((ka % 8) * 460 + x)))) li).2.2.1), .int ((ftNote q (nI x) (ftAbs ((fs x) - (kf ((ka % 8) * 460 + x)))) li).2.2.2)])), (a0, .inr (9, [.ref ab, .ref ap, .ref an, .ref as, .int (nI N), .int d1, .int d2, .int d3, .int d4])), (as, .inl (cI, 460, .inl fs)), (k0, .inr (3, [.ref ks, .ref kz])), (ks, .inl (cI, 3680, .inl kf)), (kz, .inl (cI, 8, .inl zf))] H := hP
        have hD : va_D A [(q0, .inr (0, [.int ((ftNote q (nI x) (ftAbs ((fs x) - (kf ((ka % 8) * 460 + x)))) li).1), .int ((ftNote q (nI x) (ftAbs ((fs x) - (kf ((ka % 8) * 460 + x)))) li).2.1), .int ((ftNote q (nI x) (ftAbs ((fs x) - (kf ((ka % 8) * 460 + x)))) li).2.2.1), .int ((ftNote q (nI x) (ftAbs ((fs x) - (kf ((ka % 8) * 460 + x)))) li).2.2.2)])), (a0, .inr (9, [.ref ab, .ref ap, .ref an, .ref as, .int (nI N), .int d1, .int d2, .int d3, .int d4])), (as, .inl (cI, 460, .inl fs)), (k0, .inr (3, [.ref ks, .ref kz])), (ks, .inl (cI, 3680, .inl kf)), (kz, .inl (cI, 8, .inl zf))] := hD
        refine lv_iinc (v := nI (x + 1)) (lv' := [(6, .int (nI (x + 1))), (0, .ref q0), (1, .ref a0), (2, .ref k0), (3, .int (nI ka)), (4, .int li), (5, .int (nI (min N M)))]) hx hb dX0_make_72 hl (k := 6) rfl (ft_inc x) (by decide) rfl (fun ls hl => ?_)
        refine lv_goto (tgt := 37) hx hb dX0_make_75 (by decide) ?_
        exact ih37 (x + 1) (ftNote q (nI x) (ftAbs (fs x - kf ((ka % 8) * 460 + x))) li) (nI (x + 1)) ((ftNote q (nI x) (ftAbs ((fs x) - (kf ((ka % 8) * 460 + x)))) li).1) ((ftNote q (nI x) (ftAbs ((fs x) - (kf ((ka % 8) * 460 + x)))) li).2.1) ((ftNote q (nI x) (ftAbs ((fs x) - (kf ((ka % 8) * 460 + x)))) li).2.2.1) ((ftNote q (nI x) (ftAbs ((fs x) - (kf ((ka % 8) * 460 + x)))) li).2.2.2) (by omega) (by omega) (by rw [hq]; rfl) (by first | rfl | assumption) (by first | rfl | assumption) (by first | rfl | assumption) (by first | rfl | assumption) (by first | rfl | assumption) _ _ hP hD hS ls (lv_sub hl [1, 2, 3, 4, 5, 6, 0] rfl)
  exact lp37 _ 0 (-1, 0, 0, 0) 0 (-1) 0 0 0 (Nat.lt_succ_self _) (by omega) (by rfl) (by rfl) (by rfl) (by rfl) (by rfl) (by rfl) _ _ hP hD hS ls (lv_sub hl [2, 3, 4, 5, 6, 1, 0] rfl)
set_option maxHeartbeats 4000000 in
set_option maxRecDepth 100000 in
theorem c_X8_keptCount (l : Launch) (D : va_G) (cI cS : ClassId) (t0 l0 s0 : Nat) (ke : Nat) (hke : ke < 2 ^ 31) : Met l yX8_keptCount wsX8_keptCount ({ frames := 1, cells := 0, slots := 0, locals := 30 }) (ftRO D cI cS [.ref t0] [(t0, .inr (8, [.ref l0, .ref s0, .int (nI ke)]))]) (vp_Si (fun o9 => o9 = nI (min ke 3))) 0 0 (fun _ => False) := by
  refine Met.ofW (cc := cX8_keptCount) (maxL := 1) (ret := (some .int)) (by decide) rfl ?_
  intro p e s m args below meth c s₁ B hml hv
  obtain ⟨rfl, hP, hKK⟩ := hv
  have hK := hKK.1
  have hx := B.exec
  have hb := B.bytes
  have hr := B.returns
  have hts := atoms_spec (ws := wsX8_keptCount) B.pre
  have hown : s.vm.findClass RX8 = some m.cls := findClass_of_methodNamed B.named
  have hlocks := B.notSynchronized
  have hP : va_P D vwCl [(t0, .inr (8, [.ref l0, .ref s0, .int (nI ke)]))] s.heap := hP
  have hl := lv_entry ([.ref t0]) (n := 1) (Nat.le_of_ble_eq_true rfl)
  rw [lg_entry_eq]
  generalize (lg_sl ([.ref t0]) ++ List.replicate (1 - (lg_sl ([.ref t0])).length) Slot.unset).toArray = ls at hl ⊢
  have hl : lv_has ls 1 [(0, .ref t0)] := hl
  refine lv_aload_n hx hb dX8_keptCount_0 rfl (lv_at hl 0 rfl) ?_
  refine va_get (D := D) (ci := 8) (v := .int (nI ke)) (C := RX8) (T := TX8) (N := 3) hx hb hts (by decide +kernel) hown hK hP 0 rfl rfl 2 (by decide) (hts (.fieldLink RX8 31 "FiberTrace$State" "keeps" "I") (by decide +kernel)) (fun _ h9 => h9) rfl dX8_keptCount_1 ?_
  refine lv_iconst (v := 3) hx hb dX8_keptCount_4 (by decide) ?_
  refine va_mmin hx hb (hml.trans hl.1.symm) hown (hts (.methodLink RX8 39 Lib.Math.min.name) (by decide +kernel)) (hts (.static Lib.Math.min.name) (by decide +kernel)) (hts (.initialized "java/lang/Math") (by decide +kernel)) (hts (.code Lib.Math.min.name Lib.Math.min.code 2 (some .int)) (by decide +kernel)) (Nat.le_of_ble_eq_true rfl) (Nat.le_of_ble_eq_true rfl) (Nat.le_of_ble_eq_true rfl) (Nat.le_of_ble_eq_true rfl) dX8_keptCount_5 ?_
  refine ft_top (y := ftMin (nI ke) 3) rfl ?_
  refine ft_top (y := nI (min ke 3)) (ft_minN (b := 3) hke (by omega)) ?_
  exact W.iret (v := nI (min ke 3)) hx hb hr (fun t ht hW => ⟨nI (min ke 3), rfl, rfl, ht⟩) (fun _ h9 => absurd h9 List.not_mem_nil) dX8_keptCount_8
end
