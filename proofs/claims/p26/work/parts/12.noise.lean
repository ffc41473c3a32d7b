/-! noise: the draws -/
def ftMod (x y : Int32) : Int32 := if y = 0 then 0 else ftRemI x y
def ftZ1 (z : Int32) : Int32 := ftRemI (z * 75 + 74) 65537
/-- k draws from z: the number behind them, their sum -/
def ftDraw (a : Int32) (z : Int32) : Nat → Int32 × Int32
  | 0 => (z, 0)
  | k + 1 => (ftZ1 (ftDraw a z k).1, (ftDraw a z k).2 + (ftMod (ftZ1 (ftDraw a z k).1) (2 * a + 1) - a))
def ftNz (a z : Int32) (p : Nat) : Int32 := if a = 0 then z else (ftDraw a z p).1
def ftNx (a z : Int32) (p : Nat) : Int32 := if a = 0 then 0 else ftQuot (ftDraw a z p).2 (nI p)
set_option maxHeartbeats 4000000 in
set_option maxRecDepth 100000 in
theorem c_X6_begin (l : Launch) (D : va_G) (cI cS : ClassId) (sz : Nat) (a0 : Nat) (z a : Int32) (b0 : Nat) (sf : Nat → Int32)  : Met l yX6_begin wsX6_begin ({ frames := 1, cells := 0, slots := 0, locals := 21 }) (ftRW D cI cS [.ref a0, .ref b0] [(a0, .inr (6, [.int z, .int a])), (b0, .inl (cI, 11, .inl sf))] sz) (ftQv D [(a0, .inr (6, [.int z, .int a])), (b0, .inl (cI, 11, .inl sf))] [(a0, .inr (6, [.int (sf 5), .int (sf 3)])), (b0, .inl (cI, 11, .inl sf))] sz) 0 0 (va_A [(a0, .inr (6, [.int z, .int a])), (b0, .inl (cI, 11, .inl sf))] sz) := by
  refine Met.ofW (cc := cX6_begin) (maxL := 2) (ret := none) (by decide) rfl ?_
  intro p e s m args below meth c s₁ B hml hv
  obtain ⟨rfl, hsz, hP, hKK, hD0⟩ := hv
  have hK := hKK.1
  have hx := B.exec
  have hb := B.bytes
  have hr := B.returns
  have hts := atoms_spec (ws := wsX6_begin) B.pre
  have hown : s.vm.findClass RX6 = some m.cls := findClass_of_methodNamed B.named
  have hlocks := B.notSynchronized
  subst hsz
  have hD := hD0.self (sz := s.heap.size)
  generalize hAe : va_A [(a0, .inr (6, [.int z, .int a])), (b0, .inl (cI, 11, .inl sf))] s.heap.size = A at hD ⊢
  have hA : ∀ q : Nat, s.heap.size ≤ q → A q := fun q h => by rw [← hAe]; exact Or.inr h
  have hS : va_S A s.heap s.heap [] := va_S.rf
  have hD : va_D A [(a0, .inr (6, [.int z, .int a])), (b0, .inl (cI, 11, .inl sf))] := hD
  have hP : va_P D vwCl [(a0, .inr (6, [.int z, .int a])), (b0, .inl (cI, 11, .inl sf))] s.heap := hP
  have hl := lv_entry ([.ref a0, .ref b0]) (n := 2) (Nat.le_of_ble_eq_true rfl)
  rw [lg_entry_eq]
  generalize (lg_sl ([.ref a0, .ref b0]) ++ List.replicate (2 - (lg_sl ([.ref a0, .ref b0])).length) Slot.unset).toArray = ls at hl ⊢
  have hl : lv_has ls 2 [(0, .ref a0), (1, .ref b0)] := hl
  refine lv_aload_n hx hb dX6_begin_0 rfl (lv_at hl 0 rfl) ?_
  refine lv_aload_n hx hb dX6_begin_1 rfl (lv_at hl 1 rfl) ?_
  refine lv_iconst (v := 5) hx hb dX6_begin_2 (by decide) ?_
  refine ft_csi (r := ftAt 11 sf 5) (va_runSN (As := [.ref b0, .int 5]) (rest := [.ref a0]) ⟨hx, hb, hml, hown, hts⟩ (c_X10_at l D cI cS b0 11 sf 5 (by first | assumption | omega)) ⟨va_cnB 2 hts gX6_begin_X10_at_n9 rfl rfl rfl (hKK.2 _ (List.mem_of_getElem? (i := 19) rfl)) (hts (.initialized RX10) (by decide +kernel)) (by decide +kernel) ⟨Nat.le_of_ble_eq_true rfl, Nat.le_of_ble_eq_true rfl⟩, hts (.static yX10_at) (by decide +kernel), trivial⟩ (ft_preRO hP hKK [1] rfl) rfl rfl hl.1 rfl (lv_room (Nat.le_of_ble_eq_true rfl)) dX6_begin_3 ⟨Nat.le_of_ble_eq_true rfl, Nat.le_of_ble_eq_true rfl⟩) ?_
  refine ft_top (y := sf 5) (ftAt_N (k := 5) (by omega) (by omega)) ?_
  refine va_put (D := D) (ci := 6) (v := .int (sf 5)) (ty := .int) (C := RX6) (T := TX6) (N := 2) hx hb hts (by decide +kernel) tyX6 tyX6_ok nmX6 hown hK hP hD hS 0 rfl rfl 0 (by decide) (hts (.fieldLink RX6 13 "FiberTrace$Noise" "z" "I") (by decide +kernel)) (fun _ h9 => h9) rfl (by decide +kernel) rfl rfl (Nat.le_of_ble_eq_true rfl) dX6_begin_6 (fun H locs hP hD hS => ?_)
  have hP : va_P D vwCl [(a0, .inr (6, [.int (sf 5), .int a])), (b0, .inl (cI, 11, .inl sf))] H := hP
  have hD : va_D A [(a0, .inr (6, [.int (sf 5), .int a])), (b0, .inl (cI, 11, .inl sf))] := hD
  refine lv_aload_n hx hb dX6_begin_9 rfl (lv_at hl 0 rfl) ?_
  refine lv_aload_n hx hb dX6_begin_10 rfl (lv_at hl 1 rfl) ?_
  refine lv_iconst (v := 3) hx hb dX6_begin_11 (by decide) ?_
  refine ft_csi (r := ftAt 11 sf 3) (va_runSN (As := [.ref b0, .int 3]) (rest := [.ref a0]) ⟨hx, hb, hml, hown, hts⟩ (c_X10_at l D cI cS b0 11 sf 3 (by first | assumption | omega)) ⟨va_cnB 2 hts gX6_begin_X10_at_n9 rfl rfl rfl (hKK.2 _ (List.mem_of_getElem? (i := 19) rfl)) (hts (.initialized RX10) (by decide +kernel)) (by decide +kernel) ⟨Nat.le_of_ble_eq_true rfl, Nat.le_of_ble_eq_true rfl⟩, hts (.static yX10_at) (by decide +kernel), trivial⟩ (ft_preRO hP hKK [1] rfl) rfl rfl hl.1 rfl (lv_room (Nat.le_of_ble_eq_true rfl)) dX6_begin_12 ⟨Nat.le_of_ble_eq_true rfl, Nat.le_of_ble_eq_true rfl⟩) ?_
  refine ft_top (y := sf 3) (ftAt_N (k := 3) (by omega) (by omega)) ?_
  refine va_put (D := D) (ci := 6) (v := .int (sf 3)) (ty := .int) (C := RX6) (T := TX6) (N := 2) hx hb hts (by decide +kernel) tyX6 tyX6_ok nmX6 hown hK hP hD hS 0 rfl rfl 1 (by decide) (hts (.fieldLink RX6 19 "FiberTrace$Noise" "height" "I") (by decide +kernel)) (fun _ h9 => h9) rfl (by decide +kernel) rfl rfl (Nat.le_of_ble_eq_true rfl) dX6_begin_15 (fun H locs hP hD hS => ?_)
  have hP : va_P D vwCl [(a0, .inr (6, [.int (sf 5), .int (sf 3)])), (b0, .inl (cI, 11, .inl sf))] H := hP
  have hD : va_D A [(a0, .inr (6, [.int (sf 5), .int (sf 3)])), (b0, .inl (cI, 11, .inl sf))] := hD
  have hw9 : ([(a0, .inr (6, [.int (sf 5), .int (sf 3)])), (b0, .inl (cI, 11, .inl sf))] : va_W) = [(a0, .inr (6, [.int (sf 5), .int (sf 3)])), (b0, .inl (cI, 11, .inl sf))] := rfl
  rw [hw9] at hP hD
  exact W.vret hx hb hr (fun t ht hW => ⟨⟨(), rfl, trivial, by rw [ht]; exact hP, by rw [hAe]; exact hD⟩, by rw [hAe]; exact hS.F ht⟩) hS.2.2 dX6_begin_18
set_option maxHeartbeats 4000000 in
set_option maxRecDepth 100000 in
theorem c_X6_next (l : Launch) (D : va_G) (cI cS : ClassId) (sz : Nat) (a0 : Nat) (z a : Int32) (pu : Nat) (hp : pu < 2 ^ 31) : Met l yX6_next wsX6_next ({ frames := 1, cells := 0, slots := 0, locals := 21 }) (ftRW D cI cS [.ref a0, .int (nI pu)] [(a0, .inr (6, [.int z, .int a]))] sz) (ftQi D (ftNx a z pu) [(a0, .inr (6, [.int z, .int a]))] [(a0, .inr (6, [.int (ftNz a z pu), .int a]))] sz) 0 0 (va_A [(a0, .inr (6, [.int z, .int a]))] sz) := by
  refine Met.ofW (cc := cX6_next) (maxL := 5) (ret := (some .int)) (by decide) rfl ?_
  intro p e s m args below meth c s₁ B hml hv
  obtain ⟨rfl, hsz, hP, hKK, hD0⟩ := hv
  have hK := hKK.1
  have hx := B.exec
  have hb := B.bytes
  have hr := B.returns
  have hts := atoms_spec (ws := wsX6_next) B.pre
  have hown : s.vm.findClass RX6 = some m.cls := findClass_of_methodNamed B.named
  have hlocks := B.notSynchronized
  subst hsz
  have hD := hD0.self (sz := s.heap.size)
  generalize hAe : va_A [(a0, .inr (6, [.int z, .int a]))] s.heap.size = A at hD ⊢
  have hA : ∀ q : Nat, s.heap.size ≤ q → A q := fun q h => by rw [← hAe]; exact Or.inr h
  have hS : va_S A s.heap s.heap [] := va_S.rf
  have hD : va_D A [(a0, .inr (6, [.int z, .int a]))] := hD
  have hP : va_P D vwCl [(a0, .inr (6, [.int z, .int a]))] s.heap := hP
  have hl := lv_entry ([.ref a0, .int (nI pu)]) (n := 5) (Nat.le_of_ble_eq_true rfl)
  rw [lg_entry_eq]
  generalize (lg_sl ([.ref a0, .int (nI pu)]) ++ List.replicate (5 - (lg_sl ([.ref a0, .int (nI pu)])).length) Slot.unset).toArray = ls at hl ⊢
  have hl : lv_has ls 5 [(0, .ref a0), (1, .int (nI pu))] := hl
  refine lv_aload_n hx hb dX6_next_0 rfl (lv_at hl 0 rfl) ?_
  refine va_get (D := D) (ci := 6) (v := .int a) (C := RX6) (T := TX6) (N := 2) hx hb hts (by decide +kernel) hown hK hP 0 rfl rfl 1 (by decide) (hts (.fieldLink RX6 19 "FiberTrace$Noise" "height" "I") (by decide +kernel)) (fun _ h9 => h9) rfl dX6_next_1 ?_
  refine lv_if_ne (tgt := 9) hx hb dX6_next_4 (by decide) (fun c4 => ?_) (fun c4 => ?_)
  · refine lv_iconst (v := 2) hx hb dX6_next_9 (by decide) ?_
    refine lv_aload_n hx hb dX6_next_10 rfl (lv_at hl 0 rfl) ?_
    refine va_get (D := D) (ci := 6) (v := .int a) (C := RX6) (T := TX6) (N := 2) hx hb hts (by decide +kernel) hown hK hP 0 rfl rfl 1 (by decide) (hts (.fieldLink RX6 19 "FiberTrace$Noise" "height" "I") (by decide +kernel)) (fun _ h9 => h9) rfl dX6_next_11 ?_
    refine lv_imul hx hb dX6_next_14 ?_
    refine lv_iconst (v := 1) hx hb dX6_next_15 (by decide) ?_
    refine lv_iadd hx hb dX6_next_16 ?_
    refine lv_istore_n (lv' := [(2, .int ((2 * a) + 1)), (0, .ref a0), (1, .int (nI pu))]) hx hb dX6_next_17 rfl hl (by decide) rfl (fun ls hl => ?_)
    refine lv_iconst (v := 0) hx hb dX6_next_18 (by decide) ?_
    refine lv_istore_n (lv' := [(3, .int 0), (2, .int ((2 * a) + 1)), (0, .ref a0), (1, .int (nI pu))]) hx hb dX6_next_19 rfl hl (by decide) rfl (fun ls hl => ?_)
    refine lv_iconst (v := 0) hx hb dX6_next_20 (by decide) ?_
    refine lv_istore (lv' := [(4, .int 0), (3, .int 0), (2, .int ((2 * a) + 1)), (0, .ref a0), (1, .int (nI pu))]) hx hb dX6_next_21 hl (by decide) rfl (fun ls hl => ?_)
    have lp23 : ∀ (n23 : Nat) (k : Nat) (x23_3 : Int32) (x23_4 : Int32) (g23_a0_0 : Int32), pu - k < n23 → (k ≤ pu) → x23_3 = (ftDraw a z k).2 → x23_4 = nI k → g23_a0_0 = (ftDraw a z k).1 → ∀ (H : Heap) (locs : List Loc), va_P D vwCl [(a0, .inr (6, [.int g23_a0_0, .int a]))] H → va_D A [(a0, .inr (6, [.int g23_a0_0, .int a]))] → va_S A s.heap H locs → ∀ ls : Array Slot, lv_has ls 5 [(0, .ref a0), (1, .int (nI pu)), (2, .int ((2 * a) + 1)), (3, .int x23_3), (4, .int x23_4)] → W p l e (headSpec wsX6_next { frames := 1, cells := 0, slots := 0, locals := 21 }).room s m ([.ref a0, .int (nI pu)] : List Value).toArray below meth c H locs 0 0 (MQ below (ftQi D (ftNx a z pu) [(a0, .inr (6, [.int z, .int a]))] [(a0, .inr (6, [.int (ftNz a z pu), .int a]))] s.heap.size) ([.ref a0, .int (nI pu)] : List Value).toArray s 0 0 A) (F0 m 23 ls []) := by
      intro n23
      induction n23 with
      | zero =>
        intro k x23_3 x23_4 g23_a0_0 hm23
        exact absurd hm23 (Nat.not_lt_zero _)
      | succ n23 ih23 =>
        intro k x23_3 x23_4 g23_a0_0 hm23 hk ex23_3 ex23_4 eg23_a0_0 H locs hP hD hS ls hl
        subst ex23_4
        refine lv_iload hx hb dX6_next_23 (lv_at hl 4 rfl) ?_
        refine lv_iload_n hx hb dX6_next_25 rfl (lv_at hl 1 rfl) ?_
        refine lv_icmp_ge (tgt := 74) hx hb dX6_next_26 (by decide) (fun c26 => ?_) (fun c26 => ?_)
        · have c26n : pu ≤ k := ft_leN (by omega) (by omega) c26
          refine lv_iload_n hx hb dX6_next_74 rfl (lv_at hl 3 rfl) ?_
          refine lv_iload_n hx hb dX6_next_75 rfl (lv_at hl 1 rfl) ?_
          refine ft_csi (r := ftQuot x23_3 (nI pu)) (va_runSN (As := [.int x23_3, .int (nI pu)]) (rest := []) ⟨hx, hb, hml, hown, hts⟩ (c_X10_quotient l D cI cS x23_3 (nI pu)) ⟨va_cnB 2 hts gX6_next_X10_quotient_n23 rfl rfl rfl (hKK.2 _ (List.mem_of_getElem? (i := 20) rfl)) (hts (.initialized RX10) (by decide +kernel)) (by decide +kernel) ⟨Nat.le_of_ble_eq_true rfl, Nat.le_of_ble_eq_true rfl⟩, hts (.static yX10_quotient) (by decide +kernel), trivial⟩ (ft_preRO hP hKK [] rfl) rfl rfl hl.1 rfl (lv_room (Nat.le_of_ble_eq_true rfl)) dX6_next_76 ⟨Nat.le_of_ble_eq_true rfl, Nat.le_of_ble_eq_true rfl⟩) ?_
          have hw9 : ([(a0, .inr (6, [.int g23_a0_0, .int a]))] : va_W) = [(a0, .inr (6, [.int (ftNz a z pu), .int a]))] := by (obtain rfl : k = pu := by omega); rw [ftNz, if_neg c4, eg23_a0_0]
          rw [hw9] at hP hD
          exact W.iret (v := ftQuot x23_3 (nI pu)) hx hb hr (fun t ht hW => ⟨⟨ftQuot x23_3 (nI pu), (), rfl, (by show (ftQuot x23_3 (nI pu) : Int32) = ftNx a z pu; (obtain rfl : k = pu := by omega); rw [ftNx, if_neg c4, ex23_3]), by rw [ht]; exact hP, by rw [hAe]; exact hD⟩, by rw [hAe]; exact hS.F ht⟩) hS.2.2 dX6_next_79
        · have c26n : k < pu := ft_nleN (by omega) (by omega) c26
          refine lv_aload_n hx hb dX6_next_29 rfl (lv_at hl 0 rfl) ?_
          refine lv_aload_n hx hb dX6_next_30 rfl (lv_at hl 0 rfl) ?_
          refine va_get (D := D) (ci := 6) (v := .int g23_a0_0) (C := RX6) (T := TX6) (N := 2) hx hb hts (by decide +kernel) hown hK hP 0 rfl rfl 0 (by decide) (hts (.fieldLink RX6 13 "FiberTrace$Noise" "z" "I") (by decide +kernel)) (fun _ h9 => h9) rfl dX6_next_31 ?_
          refine lv_bipush (v := 75) hx hb dX6_next_34 (by decide) ?_
          refine lv_imul hx hb dX6_next_36 ?_
          refine lv_bipush (v := 74) hx hb dX6_next_37 (by decide) ?_
          refine lv_iadd hx hb dX6_next_39 ?_
          refine lv_ldc (v := 65537) hx hb hown (hts (.constant RX6 22 65537) (by decide +kernel)) dX6_next_40 ?_
          refine lv_irem hx hb dX6_next_42 (by decide) ?_
          refine ft_top (y := ftRemI ((g23_a0_0 * 75) + 74) 65537) rfl ?_
          refine va_put (D := D) (ci := 6) (v := .int (ftRemI ((g23_a0_0 * 75) + 74) 65537)) (ty := .int) (C := RX6) (T := TX6) (N := 2) hx hb hts (by decide +kernel) tyX6 tyX6_ok nmX6 hown hK hP hD hS 0 rfl rfl 0 (by decide) (hts (.fieldLink RX6 13 "FiberTrace$Noise" "z" "I") (by decide +kernel)) (fun _ h9 => h9) rfl (by decide +kernel) rfl rfl (Nat.le_of_ble_eq_true rfl) dX6_next_43 (fun H locs hP hD hS => ?_)
          have hP : va_P D vwCl [(a0, .inr (6, [.int (ftRemI ((g23_a0_0 * 75) + 74) 65537), .int a]))] H := hP
          have hD : va_D A [(a0, .inr (6, [.int (ftRemI ((g23_a0_0 * 75) + 74) 65537), .int a]))] := hD
          refine lv_iload_n hx hb dX6_next_46 rfl (lv_at hl 3 rfl) ?_
          refine lv_iload_n hx hb dX6_next_47 rfl (lv_at hl 2 rfl) ?_
          refine lv_if_ne (tgt := 55) hx hb dX6_next_48 (by decide) (fun c48 => ?_) (fun c48 => ?_)
          · have h9 : ftMod (ftZ1 (ftDraw a z k).1) (2 * a + 1) = ftRemI (ftZ1 (ftDraw a z k).1) (2 * a + 1) := if_neg c48
            refine lv_aload_n hx hb dX6_next_55 rfl (lv_at hl 0 rfl) ?_
            refine va_get (D := D) (ci := 6) (v := .int (ftRemI ((g23_a0_0 * 75) + 74) 65537)) (C := RX6) (T := TX6) (N := 2) hx hb hts (by decide +kernel) hown hK hP 0 rfl rfl 0 (by decide) (hts (.fieldLink RX6 13 "FiberTrace$Noise" "z" "I") (by decide +kernel)) (fun _ h9 => h9) rfl dX6_next_56 ?_
            refine lv_iload_n hx hb dX6_next_59 rfl (lv_at hl 2 rfl) ?_
            refine lv_irem hx hb dX6_next_60 c48 ?_
            refine ft_top (y := ftRemI (ftRemI ((g23_a0_0 * 75) + 74) 65537) ((2 * a) + 1)) rfl ?_
            refine lv_aload_n hx hb dX6_next_61 rfl (lv_at hl 0 rfl) ?_
            refine va_get (D := D) (ci := 6) (v := .int a) (C := RX6) (T := TX6) (N := 2) hx hb hts (by decide +kernel) hown hK hP 0 rfl rfl 1 (by decide) (hts (.fieldLink RX6 19 "FiberTrace$Noise" "height" "I") (by decide +kernel)) (fun _ h9 => h9) rfl dX6_next_62 ?_
            refine lv_isub hx hb dX6_next_65 ?_
            refine lv_iadd hx hb dX6_next_66 ?_
            refine lv_istore_n (lv' := [(3, .int (x23_3 + ((ftRemI (ftRemI ((g23_a0_0 * 75) + 74) 65537) ((2 * a) + 1)) - a))), (0, .ref a0), (1, .int (nI pu)), (2, .int ((2 * a) + 1)), (4, .int (nI k))]) hx hb dX6_next_67 rfl hl (by decide) rfl (fun ls hl => ?_)
            refine lv_iinc (v := nI (k + 1)) (lv' := [(4, .int (nI (k + 1))), (3, .int (x23_3 + ((ftRemI (ftRemI ((g23_a0_0 * 75) + 74) 65537) ((2 * a) + 1)) - a))), (0, .ref a0), (1, .int (nI pu)), (2, .int ((2 * a) + 1))]) hx hb dX6_next_68 hl (k := 4) rfl (ft_inc k) (by decide) rfl (fun ls hl => ?_)
            refine lv_goto (tgt := 23) hx hb dX6_next_71 (by decide) ?_
            exact ih23 (k + 1) (x23_3 + ((ftRemI (ftRemI ((g23_a0_0 * 75) + 74) 65537) ((2 * a) + 1)) - a)) (nI (k + 1)) (ftRemI ((g23_a0_0 * 75) + 74) 65537) (by omega) (by omega) (by show _ = (ftDraw a z k).2 + (ftMod (ftZ1 (ftDraw a z k).1) (2 * a + 1) - a); first | (rw [ex23_3, eg23_a0_0, h9]; rfl) | rw [ex23_3, h9]) (by first | rfl | assumption) (by rw [eg23_a0_0]; rfl) _ _ hP hD hS ls (lv_sub hl [2, 3, 4, 1, 0] rfl)
          · have h9 : ftMod (ftZ1 (ftDraw a z k).1) (2 * a + 1) = 0 := if_pos c48
            refine lv_iconst (v := 0) hx hb dX6_next_51 (by decide) ?_
            refine lv_goto (tgt := 61) hx hb dX6_next_52 (by decide) ?_
            refine lv_aload_n hx hb dX6_next_61 rfl (lv_at hl 0 rfl) ?_
            refine va_get (D := D) (ci := 6) (v := .int a) (C := RX6) (T := TX6) (N := 2) hx hb hts (by decide +kernel) hown hK hP 0 rfl rfl 1 (by decide) (hts (.fieldLink RX6 19 "FiberTrace$Noise" "height" "I") (by decide +kernel)) (fun _ h9 => h9) rfl dX6_next_62 ?_
            refine lv_isub hx hb dX6_next_65 ?_
            refine lv_iadd hx hb dX6_next_66 ?_
            refine lv_istore_n (lv' := [(3, .int (x23_3 + (0 - a))), (0, .ref a0), (1, .int (nI pu)), (2, .int ((2 * a) + 1)), (4, .int (nI k))]) hx hb dX6_next_67 rfl hl (by decide) rfl (fun ls hl => ?_)
            refine lv_iinc (v := nI (k + 1)) (lv' := [(4, .int (nI (k + 1))), (3, .int (x23_3 + (0 - a))), (0, .ref a0), (1, .int (nI pu)), (2, .int ((2 * a) + 1))]) hx hb dX6_next_68 hl (k := 4) rfl (ft_inc k) (by decide) rfl (fun ls hl => ?_)
            refine lv_goto (tgt := 23) hx hb dX6_next_71 (by decide) ?_
            exact ih23 (k + 1) (x23_3 + (0 - a)) (nI (k + 1)) (ftRemI ((g23_a0_0 * 75) + 74) 65537) (by omega) (by omega) (by show _ = (ftDraw a z k).2 + (ftMod (ftZ1 (ftDraw a z k).1) (2 * a + 1) - a); first | (rw [ex23_3, eg23_a0_0, h9]; rfl) | rw [ex23_3, h9]) (by first | rfl | assumption) (by rw [eg23_a0_0]; rfl) _ _ hP hD hS ls (lv_sub hl [2, 3, 4, 1, 0] rfl)
    exact lp23 _ 0 0 0 z (Nat.lt_succ_self _) (by omega) (by rfl) (by rfl) (by rfl) _ _ hP hD hS ls (lv_sub hl [3, 4, 2, 1, 0] rfl)
  · refine lv_iconst (v := 0) hx hb dX6_next_7 (by decide) ?_
    have hw9 : ([(a0, .inr (6, [.int z, .int a]))] : va_W) = [(a0, .inr (6, [.int (ftNz a z pu), .int a]))] := by rw [ftNz, if_pos c4]
    rw [hw9] at hP hD
    exact W.iret (v := 0) hx hb hr (fun t ht hW => ⟨⟨0, (), rfl, (by show (0 : Int32) = ftNx a z pu; exact (if_pos c4).symm), by rw [ht]; exact hP, by rw [hAe]; exact hD⟩, by rw [hAe]; exact hS.F ht⟩) hS.2.2 dX6_next_8
