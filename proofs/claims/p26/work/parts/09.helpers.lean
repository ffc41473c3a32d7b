set_option maxHeartbeats 4000000 in
set_option maxRecDepth 100000 in
theorem c_X10_isWithin (l : Launch) (D : va_G) (cI cS : ClassId) (v lo hi : Int32)  : Met l yX10_isWithin wsX10_isWithin ({ frames := 0, cells := 0, slots := 0, locals := 0 }) (ftRO D cI cS [.int v, .int lo, .int hi] []) (vp_Si (fun o9 => o9 = ftB (lo ≤ v ∧ v ≤ hi))) 0 0 (fun _ => False) := by
  refine Met.ofW (cc := cX10_isWithin) (maxL := 3) (ret := (some .boolean)) (by decide) rfl ?_
  intro p e s m args below meth c s₁ B hml hv
  obtain ⟨rfl, hP, hKK⟩ := hv
  have hK := hKK.1
  have hx := B.exec
  have hb := B.bytes
  have hr := B.returns
  have hts := atoms_spec (ws := wsX10_isWithin) B.pre
  have hown : s.vm.findClass RX10 = some m.cls := findClass_of_methodNamed B.named
  have hlocks := B.notSynchronized
  have hP : va_P D vwCl [] s.heap := hP
  have hl := lv_entry ([.int v, .int lo, .int hi]) (n := 3) (Nat.le_of_ble_eq_true rfl)
  rw [lg_entry_eq]
  generalize (lg_sl ([.int v, .int lo, .int hi]) ++ List.replicate (3 - (lg_sl ([.int v, .int lo, .int hi])).length) Slot.unset).toArray = ls at hl ⊢
  have hl : lv_has ls 3 [(0, .int v), (1, .int lo), (2, .int hi)] := hl
  refine lv_iload_n hx hb dX10_isWithin_0 rfl (lv_at hl 0 rfl) ?_
  refine lv_iload_n hx hb dX10_isWithin_1 rfl (lv_at hl 1 rfl) ?_
  refine lv_icmp_lt (tgt := 14) hx hb dX10_isWithin_2 (by decide) (fun c2 => ?_) (fun c2 => ?_)
  · refine lv_iconst (v := 0) hx hb dX10_isWithin_14 (by decide) ?_
    exact W.zret (v := 0) hx hb hr (by rfl) (fun t ht hW => ⟨0, rfl, (by show (0 : Int32) = ftB (lo ≤ v ∧ v ≤ hi); first | exact (ftB_t ⟨Int32.not_lt.mp c2, Int32.not_lt.mp c7⟩).symm | exact (ftB_f (fun q => absurd c2 (Int32.not_lt.mpr q.1))).symm | exact (ftB_f (fun q => absurd c7 (Int32.not_lt.mpr q.2))).symm), ht⟩) (fun _ h9 => absurd h9 List.not_mem_nil) dX10_isWithin_15
  · refine lv_iload_n hx hb dX10_isWithin_5 rfl (lv_at hl 0 rfl) ?_
    refine lv_iload_n hx hb dX10_isWithin_6 rfl (lv_at hl 2 rfl) ?_
    refine lv_icmp_gt (tgt := 14) hx hb dX10_isWithin_7 (by decide) (fun c7 => ?_) (fun c7 => ?_)
    · refine lv_iconst (v := 0) hx hb dX10_isWithin_14 (by decide) ?_
      exact W.zret (v := 0) hx hb hr (by rfl) (fun t ht hW => ⟨0, rfl, (by show (0 : Int32) = ftB (lo ≤ v ∧ v ≤ hi); first | exact (ftB_t ⟨Int32.not_lt.mp c2, Int32.not_lt.mp c7⟩).symm | exact (ftB_f (fun q => absurd c2 (Int32.not_lt.mpr q.1))).symm | exact (ftB_f (fun q => absurd c7 (Int32.not_lt.mpr q.2))).symm), ht⟩) (fun _ h9 => absurd h9 List.not_mem_nil) dX10_isWithin_15
    · refine lv_iconst (v := 1) hx hb dX10_isWithin_10 (by decide) ?_
      refine lv_goto (tgt := 15) hx hb dX10_isWithin_11 (by decide) ?_
      exact W.zret (v := 1) hx hb hr (by rfl) (fun t ht hW => ⟨1, rfl, (by show (1 : Int32) = ftB (lo ≤ v ∧ v ≤ hi); first | exact (ftB_t ⟨Int32.not_lt.mp c2, Int32.not_lt.mp c7⟩).symm | exact (ftB_f (fun q => absurd c2 (Int32.not_lt.mpr q.1))).symm | exact (ftB_f (fun q => absurd c7 (Int32.not_lt.mpr q.2))).symm), ht⟩) (fun _ h9 => absurd h9 List.not_mem_nil) dX10_isWithin_15
set_option maxHeartbeats 4000000 in
set_option maxRecDepth 100000 in
theorem c_X10_at (l : Launch) (D : va_G) (cI cS : ClassId) (row n : Nat) (f : Nat → Int32) (i : Int32) (hn : n < 2 ^ 31) : Met l yX10_at wsX10_at ({ frames := 0, cells := 0, slots := 0, locals := 0 }) (ftRO D cI cS [.ref row, .int i] [(row, .inl (cI, n, .inl f))]) (vp_Si (fun o9 => o9 = ftAt n f i)) 0 0 (fun _ => False) := by
  refine Met.ofW (cc := cX10_at) (maxL := 2) (ret := (some .int)) (by decide) rfl ?_
  intro p e s m args below meth c s₁ B hml hv
  obtain ⟨rfl, hP, hKK⟩ := hv
  have hK := hKK.1
  have hx := B.exec
  have hb := B.bytes
  have hr := B.returns
  have hts := atoms_spec (ws := wsX10_at) B.pre
  have hown : s.vm.findClass RX10 = some m.cls := findClass_of_methodNamed B.named
  have hlocks := B.notSynchronized
  have hP : va_P D vwCl [(row, .inl (cI, n, .inl f))] s.heap := hP
  have hl := lv_entry ([.ref row, .int i]) (n := 2) (Nat.le_of_ble_eq_true rfl)
  rw [lg_entry_eq]
  generalize (lg_sl ([.ref row, .int i]) ++ List.replicate (2 - (lg_sl ([.ref row, .int i])).length) Slot.unset).toArray = ls at hl ⊢
  have hl : lv_has ls 2 [(0, .ref row), (1, .int i)] := hl
  refine lv_aload_n hx hb dX10_at_0 rfl (lv_at hl 0 rfl) ?_
  refine lv_ifnull hx hb dX10_at_1 ?_
  refine lv_iload_n hx hb dX10_at_4 rfl (lv_at hl 1 rfl) ?_
  refine lv_if_lt (tgt := 20) hx hb dX10_at_5 (by decide) (fun c5 => ?_) (fun c5 => ?_)
  · refine lv_iconst (v := 0) hx hb dX10_at_20 (by decide) ?_
    exact W.iret (v := 0) hx hb hr (fun t ht hW => ⟨0, rfl, (by show (0 : Int32) = ftAt n f i; first | exact (ftAt_in (ft_in hn c5 c11)).symm | exact (ftAt_out (ft_out hn c5 c11)).symm | exact (ftAt_out (fun q => q (Or.inl c5))).symm), ht⟩) (fun _ h9 => absurd h9 List.not_mem_nil) dX10_at_21
  · refine lv_iload_n hx hb dX10_at_8 rfl (lv_at hl 1 rfl) ?_
    refine lv_aload_n hx hb dX10_at_9 rfl (lv_at hl 0 rfl) ?_
    refine va_alen (v := Int32.ofNat n) hx hb hK hP 0 0 rfl rfl rfl dX10_at_10 ?_
    refine lv_icmp_ge (tgt := 20) hx hb dX10_at_11 (by decide) (fun c11 => ?_) (fun c11 => ?_)
    · refine lv_iconst (v := 0) hx hb dX10_at_20 (by decide) ?_
      exact W.iret (v := 0) hx hb hr (fun t ht hW => ⟨0, rfl, (by show (0 : Int32) = ftAt n f i; first | exact (ftAt_in (ft_in hn c5 c11)).symm | exact (ftAt_out (ft_out hn c5 c11)).symm | exact (ftAt_out (fun q => q (Or.inl c5))).symm), ht⟩) (fun _ h9 => absurd h9 List.not_mem_nil) dX10_at_21
    · refine lv_aload_n hx hb dX10_at_14 rfl (lv_at hl 0 rfl) ?_
      refine lv_iload_n hx hb dX10_at_15 rfl (lv_at hl 1 rfl) ?_
      refine va_iald hx hb hK hP 0 0 rfl rfl (ft_in hn c5 c11) dX10_at_16 ?_
      refine lv_goto (tgt := 21) hx hb dX10_at_17 (by decide) ?_
      exact W.iret (v := f i.toNatClampNeg) hx hb hr (fun t ht hW => ⟨f i.toNatClampNeg, rfl, (by show (f i.toNatClampNeg : Int32) = ftAt n f i; first | exact (ftAt_in (ft_in hn c5 c11)).symm | exact (ftAt_out (ft_out hn c5 c11)).symm | exact (ftAt_out (fun q => q (Or.inl c5))).symm), ht⟩) (fun _ h9 => absurd h9 List.not_mem_nil) dX10_at_21
set_option maxHeartbeats 4000000 in
set_option maxRecDepth 100000 in
theorem c_X10_put (l : Launch) (D : va_G) (cI cS : ClassId) (sz : Nat) (row n : Nat) (f : Nat → Int32) (i x : Int32) (hn : n < 2 ^ 31) : Met l yX10_put wsX10_put ({ frames := 0, cells := 0, slots := 0, locals := 0 }) (ftRW D cI cS [.ref row, .int i, .int x] [(row, .inl (cI, n, .inl f))] sz) (ftQv D [(row, .inl (cI, n, .inl f))] [(row, .inl (cI, n, .inl (ftPut n f i x)))] sz) 0 0 (va_A [(row, .inl (cI, n, .inl f))] sz) := by
  refine Met.ofW (cc := cX10_put) (maxL := 3) (ret := none) (by decide) rfl ?_
  intro p e s m args below meth c s₁ B hml hv
  obtain ⟨rfl, hsz, hP, hKK, hD0⟩ := hv
  have hK := hKK.1
  have hx := B.exec
  have hb := B.bytes
  have hr := B.returns
  have hts := atoms_spec (ws := wsX10_put) B.pre
  have hown : s.vm.findClass RX10 = some m.cls := findClass_of_methodNamed B.named
  have hlocks := B.notSynchronized
  subst hsz
  have hD := hD0.self (sz := s.heap.size)
  generalize hAe : va_A [(row, .inl (cI, n, .inl f))] s.heap.size = A at hD ⊢
  have hA : ∀ q : Nat, s.heap.size ≤ q → A q := fun q h => by rw [← hAe]; exact Or.inr h
  have hS : va_S A s.heap s.heap [] := va_S.rf
  have hD : va_D A [(row, .inl (cI, n, .inl f))] := hD
  have hP : va_P D vwCl [(row, .inl (cI, n, .inl f))] s.heap := hP
  have hl := lv_entry ([.ref row, .int i, .int x]) (n := 3) (Nat.le_of_ble_eq_true rfl)
  rw [lg_entry_eq]
  generalize (lg_sl ([.ref row, .int i, .int x]) ++ List.replicate (3 - (lg_sl ([.ref row, .int i, .int x])).length) Slot.unset).toArray = ls at hl ⊢
  have hl : lv_has ls 3 [(0, .ref row), (1, .int i), (2, .int x)] := hl
  refine lv_aload_n hx hb dX10_put_0 rfl (lv_at hl 0 rfl) ?_
  refine lv_ifnull hx hb dX10_put_1 ?_
  refine lv_iload_n hx hb dX10_put_4 rfl (lv_at hl 1 rfl) ?_
  refine lv_if_lt (tgt := 18) hx hb dX10_put_5 (by decide) (fun c5 => ?_) (fun c5 => ?_)
  · have hw9 : ([(row, .inl (cI, n, .inl f))] : va_W) = [(row, .inl (cI, n, .inl (ftPut n f i x)))] := by first | rw [ftPut_in (ft_in hn c5 c11)] | rw [ftPut_out (ft_out hn c5 c11)] | rw [ftPut_out (fun q => q (Or.inl c5))]
    rw [hw9] at hP hD
    exact W.vret hx hb hr (fun t ht hW => ⟨⟨(), rfl, trivial, by rw [ht]; exact hP, by rw [hAe]; exact hD⟩, by rw [hAe]; exact hS.F ht⟩) hS.2.2 dX10_put_18
  · refine lv_iload_n hx hb dX10_put_8 rfl (lv_at hl 1 rfl) ?_
    refine lv_aload_n hx hb dX10_put_9 rfl (lv_at hl 0 rfl) ?_
    refine va_alen (v := Int32.ofNat n) hx hb hK hP 0 0 rfl rfl rfl dX10_put_10 ?_
    refine lv_icmp_ge (tgt := 18) hx hb dX10_put_11 (by decide) (fun c11 => ?_) (fun c11 => ?_)
    · have hw9 : ([(row, .inl (cI, n, .inl f))] : va_W) = [(row, .inl (cI, n, .inl (ftPut n f i x)))] := by first | rw [ftPut_in (ft_in hn c5 c11)] | rw [ftPut_out (ft_out hn c5 c11)] | rw [ftPut_out (fun q => q (Or.inl c5))]
      rw [hw9] at hP hD
      exact W.vret hx hb hr (fun t ht hW => ⟨⟨(), rfl, trivial, by rw [ht]; exact hP, by rw [hAe]; exact hD⟩, by rw [hAe]; exact hS.F ht⟩) hS.2.2 dX10_put_18
    · refine lv_aload_n hx hb dX10_put_14 rfl (lv_at hl 0 rfl) ?_
      refine lv_iload_n hx hb dX10_put_15 rfl (lv_at hl 1 rfl) ?_
      refine lv_iload_n hx hb dX10_put_16 rfl (lv_at hl 2 rfl) ?_
      refine va_iast hx hb hK hP hD hS 0 0 rfl rfl (ft_in hn c5 c11) dX10_put_17 (fun H locs hP hD hS => ?_)
      have hP : va_P D vwCl [(row, .inl (cI, n, .inl (upd f i.toNatClampNeg x)))] H := hP
      have hD : va_D A [(row, .inl (cI, n, .inl (upd f i.toNatClampNeg x)))] := hD
      have hw9 : ([(row, .inl (cI, n, .inl (upd f i.toNatClampNeg x)))] : va_W) = [(row, .inl (cI, n, .inl (ftPut n f i x)))] := by first | rw [ftPut_in (ft_in hn c5 c11)] | rw [ftPut_out (ft_out hn c5 c11)] | rw [ftPut_out (fun q => q (Or.inl c5))]
      rw [hw9] at hP hD
      exact W.vret hx hb hr (fun t ht hW => ⟨⟨(), rfl, trivial, by rw [ht]; exact hP, by rw [hAe]; exact hD⟩, by rw [hAe]; exact hS.F ht⟩) hS.2.2 dX10_put_18
set_option maxHeartbeats 4000000 in
set_option maxRecDepth 100000 in
theorem c_X10_orNotFound (l : Launch) (D : va_G) (cI cS : ClassId) (v : Int32)  : Met l yX10_orNotFound wsX10_orNotFound ({ frames := 0, cells := 0, slots := 0, locals := 0 }) (ftRO D cI cS [.int v] []) (vp_Si (fun o9 => o9 = if v = -1 then -1000004 else v)) 0 0 (fun _ => False) := by
  refine Met.ofW (cc := cX10_orNotFound) (maxL := 1) (ret := (some .int)) (by decide) rfl ?_
  intro p e s m args below meth c s₁ B hml hv
  obtain ⟨rfl, hP, hKK⟩ := hv
  have hK := hKK.1
  have hx := B.exec
  have hb := B.bytes
  have hr := B.returns
  have hts := atoms_spec (ws := wsX10_orNotFound) B.pre
  have hown : s.vm.findClass RX10 = some m.cls := findClass_of_methodNamed B.named
  have hlocks := B.notSynchronized
  have hP : va_P D vwCl [] s.heap := hP
  have hl := lv_entry ([.int v]) (n := 1) (Nat.le_of_ble_eq_true rfl)
  rw [lg_entry_eq]
  generalize (lg_sl ([.int v]) ++ List.replicate (1 - (lg_sl ([.int v])).length) Slot.unset).toArray = ls at hl ⊢
  have hl : lv_has ls 1 [(0, .int v)] := hl
  refine lv_iload_n hx hb dX10_orNotFound_0 rfl (lv_at hl 0 rfl) ?_
  refine lv_iconst (v := (-1)) hx hb dX10_orNotFound_1 (by decide) ?_
  refine lv_icmp_ne (tgt := 10) hx hb dX10_orNotFound_2 (by decide) (fun c2 => ?_) (fun c2 => ?_)
  · refine lv_iload_n hx hb dX10_orNotFound_10 rfl (lv_at hl 0 rfl) ?_
    exact W.iret (v := v) hx hb hr (fun t ht hW => ⟨v, rfl, (by show (v : Int32) = if v = -1 then -1000004 else v; first | exact (if_pos c2).symm | exact (if_neg c2).symm), ht⟩) (fun _ h9 => absurd h9 List.not_mem_nil) dX10_orNotFound_11
  · refine lv_ldc (v := (-1000004)) hx hb hown (hts (.constant RX10 104 (-1000004)) (by decide +kernel)) dX10_orNotFound_5 ?_
    refine lv_goto (tgt := 11) hx hb dX10_orNotFound_7 (by decide) ?_
    exact W.iret (v := (-1000004)) hx hb hr (fun t ht hW => ⟨(-1000004), rfl, (by show ((-1000004) : Int32) = if v = -1 then -1000004 else v; first | exact (if_pos c2).symm | exact (if_neg c2).symm), ht⟩) (fun _ h9 => absurd h9 List.not_mem_nil) dX10_orNotFound_11
set_option maxHeartbeats 4000000 in
set_option maxRecDepth 100000 in
theorem c_X10_quotient (l : Launch) (D : va_G) (cI cS : ClassId) (x y : Int32)  : Met l yX10_quotient wsX10_quotient ({ frames := 0, cells := 0, slots := 0, locals := 0 }) (ftRO D cI cS [.int x, .int y] []) (vp_Si (fun o9 => o9 = ftQuot x y)) 0 0 (fun _ => False) := by
  refine Met.ofW (cc := cX10_quotient) (maxL := 2) (ret := (some .int)) (by decide) rfl ?_
  intro p e s m args below meth c s₁ B hml hv
  obtain ⟨rfl, hP, hKK⟩ := hv
  have hK := hKK.1
  have hx := B.exec
  have hb := B.bytes
  have hr := B.returns
  have hts := atoms_spec (ws := wsX10_quotient) B.pre
  have hown : s.vm.findClass RX10 = some m.cls := findClass_of_methodNamed B.named
  have hlocks := B.notSynchronized
  have hP : va_P D vwCl [] s.heap := hP
  have hl := lv_entry ([.int x, .int y]) (n := 2) (Nat.le_of_ble_eq_true rfl)
  rw [lg_entry_eq]
  generalize (lg_sl ([.int x, .int y]) ++ List.replicate (2 - (lg_sl ([.int x, .int y])).length) Slot.unset).toArray = ls at hl ⊢
  have hl : lv_has ls 2 [(0, .int x), (1, .int y)] := hl
  refine lv_iload_n hx hb dX10_quotient_0 rfl (lv_at hl 1 rfl) ?_
  refine lv_if_ne (tgt := 8) hx hb dX10_quotient_1 (by decide) (fun c1 => ?_) (fun c1 => ?_)
  · refine lv_iload_n hx hb dX10_quotient_8 rfl (lv_at hl 0 rfl) ?_
    refine lv_iload_n hx hb dX10_quotient_9 rfl (lv_at hl 1 rfl) ?_
    refine lv_idiv hx hb dX10_quotient_10 c1 ?_
    exact W.iret (v := x / y) hx hb hr (fun t ht hW => ⟨x / y, rfl, (by show (x / y : Int32) = ftQuot x y; first | (rw [ftQuot, if_pos c1]) | (rw [ftQuot, if_neg c1])), ht⟩) (fun _ h9 => absurd h9 List.not_mem_nil) dX10_quotient_11
  · refine lv_iconst (v := 0) hx hb dX10_quotient_4 (by decide) ?_
    refine lv_goto (tgt := 11) hx hb dX10_quotient_5 (by decide) ?_
    exact W.iret (v := 0) hx hb hr (fun t ht hW => ⟨0, rfl, (by show (0 : Int32) = ftQuot x y; first | (rw [ftQuot, if_pos c1]) | (rw [ftQuot, if_neg c1])), ht⟩) (fun _ h9 => absurd h9 List.not_mem_nil) dX10_quotient_11
