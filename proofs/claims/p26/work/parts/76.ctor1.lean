theorem nwX0 : ∀ j, j < 4 → defaultValue (tyX0 j) = vp_V [.int 0, .int 0, .int 0, .int 0] j := by
  intro j hj
  match j, hj with
  | 0, _ => rfl
  | 1, _ => rfl
  | 2, _ => rfl
  | 3, _ => rfl
  | j + 4, h => exact absurd h (by omega)
theorem nwX1 : ∀ j, j < 7 → defaultValue (tyX1 j) = vp_V [.null, .null, .int 0, .null, .null, .null, .int 0] j := by
  intro j hj
  match j, hj with
  | 0, _ => rfl
  | 1, _ => rfl
  | 2, _ => rfl
  | 3, _ => rfl
  | 4, _ => rfl
  | 5, _ => rfl
  | 6, _ => rfl
  | j + 7, h => exact absurd h (by omega)
theorem nwX2 : ∀ j, j < 3 → defaultValue (tyX2 j) = vp_V [.null, .int 0, .int 0] j := by
  intro j hj
  match j, hj with
  | 0, _ => rfl
  | 1, _ => rfl
  | 2, _ => rfl
  | j + 3, h => exact absurd h (by omega)
theorem nwX3 : ∀ j, j < 2 → defaultValue (tyX3 j) = vp_V [.null, .null] j := by
  intro j hj
  match j, hj with
  | 0, _ => rfl
  | 1, _ => rfl
  | j + 2, h => exact absurd h (by omega)
theorem nwX4 : ∀ j, j < 8 → defaultValue (tyX4 j) = vp_V [.int 0, .int 0, .int 0, .int 0, .null, .null, .null, .null] j := by
  intro j hj
  match j, hj with
  | 0, _ => rfl
  | 1, _ => rfl
  | 2, _ => rfl
  | 3, _ => rfl
  | 4, _ => rfl
  | 5, _ => rfl
  | 6, _ => rfl
  | 7, _ => rfl
  | j + 8, h => exact absurd h (by omega)
theorem nwX5 : ∀ j, j < 9 → defaultValue (tyX5 j) = vp_V [.null, .null, .null, .null, .int 0, .int 0, .int 0, .int 0, .int 0] j := by
  intro j hj
  match j, hj with
  | 0, _ => rfl
  | 1, _ => rfl
  | 2, _ => rfl
  | 3, _ => rfl
  | 4, _ => rfl
  | 5, _ => rfl
  | 6, _ => rfl
  | 7, _ => rfl
  | 8, _ => rfl
  | j + 9, h => exact absurd h (by omega)
theorem nwX6 : ∀ j, j < 2 → defaultValue (tyX6 j) = vp_V [.int 0, .int 0] j := by
  intro j hj
  match j, hj with
  | 0, _ => rfl
  | 1, _ => rfl
  | j + 2, h => exact absurd h (by omega)
theorem nwX7 : ∀ j, j < 10 → defaultValue (tyX7 j) = vp_V [.null, .null, .null, .null, .null, .null, .null, .null, .int 0, .int 0] j := by
  intro j hj
  match j, hj with
  | 0, _ => rfl
  | 1, _ => rfl
  | 2, _ => rfl
  | 3, _ => rfl
  | 4, _ => rfl
  | 5, _ => rfl
  | 6, _ => rfl
  | 7, _ => rfl
  | 8, _ => rfl
  | 9, _ => rfl
  | j + 10, h => exact absurd h (by omega)
theorem nwX8 : ∀ j, j < 3 → defaultValue (tyX8 j) = vp_V [.null, .null, .int 0] j := by
  intro j hj
  match j, hj with
  | 0, _ => rfl
  | 1, _ => rfl
  | 2, _ => rfl
  | j + 3, h => exact absurd h (by omega)
theorem nwX9 : ∀ j, j < 9 → defaultValue (tyX9 j) = vp_V [.null, .null, .null, .null, .int 0, .int 0, .int 0, .int 0, .int 0] j := by
  intro j hj
  match j, hj with
  | 0, _ => rfl
  | 1, _ => rfl
  | 2, _ => rfl
  | 3, _ => rfl
  | 4, _ => rfl
  | 5, _ => rfl
  | 6, _ => rfl
  | 7, _ => rfl
  | 8, _ => rfl
  | j + 9, h => exact absurd h (by omega)
theorem nwX10 : ∀ j, j < 11 → defaultValue (tyX10 j) = vp_V [.null, .null, .null, .null, .null, .null, .null, .null, .null, .null, .int 0] j := by
  intro j hj
  match j, hj with
  | 0, _ => rfl
  | 1, _ => rfl
  | 2, _ => rfl
  | 3, _ => rfl
  | 4, _ => rfl
  | 5, _ => rfl
  | 6, _ => rfl
  | 7, _ => rfl
  | 8, _ => rfl
  | 9, _ => rfl
  | 10, _ => rfl
  | j + 11, h => exact absurd h (by omega)
set_option maxHeartbeats 4000000 in
set_option maxRecDepth 100000 in
theorem c_X0_init (l : Launch) (D : va_G) (cI cS : ClassId) (sz : Nat) (h0 : Nat)  : Met l yX0_init wsX0_init ({ frames := 1, cells := 0, slots := 0, locals := 30 }) (ftRW D cI cS [.ref h0] [(h0, .inr (0, [.int 0, .int 0, .int 0, .int 0]))] sz) (ftXv D [(h0, .inr (0, [.int 0, .int 0, .int 0, .int 0]))] sz (fun (u : Nat → Nat) => True) (fun (u : Nat → Nat) => [(h0, .inr (0, [.int 0, .int 0, .int 0, .int 0]))])) 0 0 (va_A [(h0, .inr (0, [.int 0, .int 0, .int 0, .int 0]))] sz) := by
  refine Met.ofW (cc := cX0_init) (maxL := 1) (ret := none) (by decide) rfl ?_
  intro p e s m args below meth c s₁ B hml hv
  obtain ⟨rfl, hsz, hP, hKK, hD0⟩ := hv
  have hK := hKK.1
  have hx := B.exec
  have hb := B.bytes
  have hr := B.returns
  have hts := atoms_spec (ws := wsX0_init) B.pre
  have hown : s.vm.findClass RX0 = some m.cls := findClass_of_methodNamed B.named
  have hlocks := B.notSynchronized
  subst hsz
  have hD := hD0.self (sz := s.heap.size)
  generalize hAe : va_A [(h0, .inr (0, [.int 0, .int 0, .int 0, .int 0]))] s.heap.size = A at hD ⊢
  have hA : ∀ q : Nat, s.heap.size ≤ q → A q := fun q h => by rw [← hAe]; exact Or.inr h
  have hS : va_S A s.heap s.heap [] := va_S.rf
  have hD : va_D A [(h0, .inr (0, [.int 0, .int 0, .int 0, .int 0]))] := hD
  have hP : va_P D vwCl [(h0, .inr (0, [.int 0, .int 0, .int 0, .int 0]))] s.heap := hP
  have hl := lv_entry ([.ref h0]) (n := 1) (Nat.le_of_ble_eq_true rfl)
  rw [lg_entry_eq]
  generalize (lg_sl ([.ref h0]) ++ List.replicate (1 - (lg_sl ([.ref h0])).length) Slot.unset).toArray = ls at hl ⊢
  have hl : lv_has ls 1 [(0, .ref h0)] := hl
  have hin : meth.name = "<init>" := (name_of_methodNamed B.named B.method).1
  refine lv_aload_n hx hb dX0_init_0 rfl (lv_at hl 0 rfl) ?_
  refine W.objInit hx hb hown (hts (.methodLink RX0 3 objectInit) (by decide +kernel)) (hts (.instanceMethod objectInit) (by decide +kernel)) (hts (.code objectInit ⟨#[0xb1]⟩ 1 none) (List.mem_of_getElem? (i := 3) rfl)) rfl (by rw [hml]; exact hl.1) rfl dX0_init_1 (Nat.le_of_ble_eq_true rfl) (Nat.le_of_ble_eq_true rfl) ?_
  refine W.eq (g2 := F0 m 4 ls []) rfl ?_
  obtain ⟨u9, hu9⟩ : ∃ u9 : Nat → Nat, u9 = fun k => ([] : List Nat).getD k 0 := ⟨_, rfl⟩
  have hw9 : ([(h0, .inr (0, [.int 0, .int 0, .int 0, .int 0]))] : va_W) = [(h0, .inr (0, [.int 0, .int 0, .int 0, .int 0]))] := by subst hu9; rfl
  rw [hw9] at hP hD
  exact W.vret hx hb hr (fun t ht hW => ⟨⟨u9, rfl, trivial, by rw [ht]; exact hP, by rw [hAe]; exact hD⟩, by rw [hAe]; exact hS.F ht⟩) hS.2.2 dX0_init_4
set_option maxHeartbeats 4000000 in
set_option maxRecDepth 100000 in
theorem c_X6_init (l : Launch) (D : va_G) (cI cS : ClassId) (sz : Nat) (h0 : Nat)  : Met l yX6_init wsX6_init ({ frames := 1, cells := 0, slots := 0, locals := 30 }) (ftRW D cI cS [.ref h0] [(h0, .inr (6, [.int 0, .int 0]))] sz) (ftXv D [(h0, .inr (6, [.int 0, .int 0]))] sz (fun (u : Nat → Nat) => True) (fun (u : Nat → Nat) => [(h0, .inr (6, [.int 0, .int 0]))])) 0 0 (va_A [(h0, .inr (6, [.int 0, .int 0]))] sz) := by
  refine Met.ofW (cc := cX6_init) (maxL := 1) (ret := none) (by decide) rfl ?_
  intro p e s m args below meth c s₁ B hml hv
  obtain ⟨rfl, hsz, hP, hKK, hD0⟩ := hv
  have hK := hKK.1
  have hx := B.exec
  have hb := B.bytes
  have hr := B.returns
  have hts := atoms_spec (ws := wsX6_init) B.pre
  have hown : s.vm.findClass RX6 = some m.cls := findClass_of_methodNamed B.named
  have hlocks := B.notSynchronized
  subst hsz
  have hD := hD0.self (sz := s.heap.size)
  generalize hAe : va_A [(h0, .inr (6, [.int 0, .int 0]))] s.heap.size = A at hD ⊢
  have hA : ∀ q : Nat, s.heap.size ≤ q → A q := fun q h => by rw [← hAe]; exact Or.inr h
  have hS : va_S A s.heap s.heap [] := va_S.rf
  have hD : va_D A [(h0, .inr (6, [.int 0, .int 0]))] := hD
  have hP : va_P D vwCl [(h0, .inr (6, [.int 0, .int 0]))] s.heap := hP
  have hl := lv_entry ([.ref h0]) (n := 1) (Nat.le_of_ble_eq_true rfl)
  rw [lg_entry_eq]
  generalize (lg_sl ([.ref h0]) ++ List.replicate (1 - (lg_sl ([.ref h0])).length) Slot.unset).toArray = ls at hl ⊢
  have hl : lv_has ls 1 [(0, .ref h0)] := hl
  have hin : meth.name = "<init>" := (name_of_methodNamed B.named B.method).1
  refine lv_aload_n hx hb dX6_init_0 rfl (lv_at hl 0 rfl) ?_
  refine W.objInit hx hb hown (hts (.methodLink RX6 3 objectInit) (by decide +kernel)) (hts (.instanceMethod objectInit) (by decide +kernel)) (hts (.code objectInit ⟨#[0xb1]⟩ 1 none) (List.mem_of_getElem? (i := 3) rfl)) rfl (by rw [hml]; exact hl.1) rfl dX6_init_1 (Nat.le_of_ble_eq_true rfl) (Nat.le_of_ble_eq_true rfl) ?_
  refine W.eq (g2 := F0 m 4 ls []) rfl ?_
  obtain ⟨u9, hu9⟩ : ∃ u9 : Nat → Nat, u9 = fun k => ([] : List Nat).getD k 0 := ⟨_, rfl⟩
  have hw9 : ([(h0, .inr (6, [.int 0, .int 0]))] : va_W) = [(h0, .inr (6, [.int 0, .int 0]))] := by subst hu9; rfl
  rw [hw9] at hP hD
  exact W.vret hx hb hr (fun t ht hW => ⟨⟨u9, rfl, trivial, by rw [ht]; exact hP, by rw [hAe]; exact hD⟩, by rw [hAe]; exact hS.F ht⟩) hS.2.2 dX6_init_4
set_option maxHeartbeats 4000000 in
set_option maxRecDepth 100000 in
theorem c_X3_init (l : Launch) (D : va_G) (cI cS : ClassId) (sz : Nat) (h0 : Nat)  : Met l yX3_init wsX3_init ({ frames := 1, cells := 2, slots := 3688, locals := 30 }) (ftRW D cI cS [.ref h0] [(h0, .inr (3, [.null, .null]))] sz) (ftXv D [(h0, .inr (3, [.null, .null]))] sz (fun (u : Nat → Nat) => True) (fun (u : Nat → Nat) => [(h0, .inr (3, [.ref (u 0), .ref (u 1)])), (u 0, .inl (cI, 3680, .inl (fun _ => 0))), (u 1, .inl (cI, 8, .inl (fun _ => 0)))])) 2 3688 (va_A [(h0, .inr (3, [.null, .null]))] sz) := by
  refine Met.ofW (cc := cX3_init) (maxL := 1) (ret := none) (by decide) rfl ?_
  intro p e s m args below meth c s₁ B hml hv
  obtain ⟨rfl, hsz, hP, hKK, hD0⟩ := hv
  have hK := hKK.1
  have hx := B.exec
  have hb := B.bytes
  have hr := B.returns
  have hts := atoms_spec (ws := wsX3_init) B.pre
  have hown : s.vm.findClass RX3 = some m.cls := findClass_of_methodNamed B.named
  have hlocks := B.notSynchronized
  subst hsz
  have hD := hD0.self (sz := s.heap.size)
  generalize hAe : va_A [(h0, .inr (3, [.null, .null]))] s.heap.size = A at hD ⊢
  have hA : ∀ q : Nat, s.heap.size ≤ q → A q := fun q h => by rw [← hAe]; exact Or.inr h
  have hS : va_S A s.heap s.heap [] := va_S.rf
  have hD : va_D A [(h0, .inr (3, [.null, .null]))] := hD
  have hP : va_P D vwCl [(h0, .inr (3, [.null, .null]))] s.heap := hP
  have hl := lv_entry ([.ref h0]) (n := 1) (Nat.le_of_ble_eq_true rfl)
  rw [lg_entry_eq]
  generalize (lg_sl ([.ref h0]) ++ List.replicate (1 - (lg_sl ([.ref h0])).length) Slot.unset).toArray = ls at hl ⊢
  have hl : lv_has ls 1 [(0, .ref h0)] := hl
  have hin : meth.name = "<init>" := (name_of_methodNamed B.named B.method).1
  refine lv_aload_n hx hb dX3_init_0 rfl (lv_at hl 0 rfl) ?_
  refine W.objInit hx hb hown (hts (.methodLink RX3 3 objectInit) (by decide +kernel)) (hts (.instanceMethod objectInit) (by decide +kernel)) (hts (.code objectInit ⟨#[0xb1]⟩ 1 none) (List.mem_of_getElem? (i := 3) rfl)) rfl (by rw [hml]; exact hl.1) rfl dX3_init_1 (Nat.le_of_ble_eq_true rfl) (Nat.le_of_ble_eq_true rfl) ?_
  refine W.eq (g2 := F0 m 4 ls []) rfl ?_
  refine lv_aload_n hx hb dX3_init_4 rfl (lv_at hl 0 rfl) ?_
  refine lv_sipush (v := 3680) hx hb dX3_init_5 (by decide) ?_
  refine ft_newI hx hb (hts (.arrayClass .int) (by decide +kernel)) hKK hP hD hS hA (N := 3680) (by decide) (by decide) (Nat.le_of_ble_eq_true rfl) (Nat.le_of_ble_eq_true rfl) (Nat.le_of_ble_eq_true rfl) dX3_init_8 (fun q8 H hP hD hS => ?_)
  refine W.widen (k := 1) (n := 3680) (Nat.le_of_ble_eq_true rfl) (Nat.le_of_ble_eq_true rfl) ?_
  have hP : va_P D vwCl [(h0, .inr (3, [.null, .null])), (q8, .inl (cI, 3680, .inl (fun _ => 0)))] H := hP
  have hD : va_D A [(h0, .inr (3, [.null, .null])), (q8, .inl (cI, 3680, .inl (fun _ => 0)))] := hD
  refine va_putF (D := D) (ci := 3) (v := .ref q8) (ty := .array .int) (C := RX3) (T := TX3) (N := 2) hx hb hts (by decide +kernel) tyX3 tyX3_ok nmX3 hown hK hP hD hS 0 rfl rfl 0 (by decide) (hts (.fieldLink RX3 11 "FiberTrace$KeptTraces" "samples" "[I") (by decide +kernel)) (fun _ h9 => h9) rfl hin rfl (by decide +kernel) rfl rfl (Nat.le_of_ble_eq_true rfl) dX3_init_10 (fun H locs hP hD hS => ?_)
  have hP : va_P D vwCl [(h0, .inr (3, [.ref q8, .null])), (q8, .inl (cI, 3680, .inl (fun _ => 0)))] H := hP
  have hD : va_D A [(h0, .inr (3, [.ref q8, .null])), (q8, .inl (cI, 3680, .inl (fun _ => 0)))] := hD
  refine lv_aload_n hx hb dX3_init_13 rfl (lv_at hl 0 rfl) ?_
  refine lv_bipush (v := 8) hx hb dX3_init_14 (by decide) ?_
  refine ft_newI hx hb (hts (.arrayClass .int) (by decide +kernel)) hKK hP hD hS hA (N := 8) (by decide) (by decide) (Nat.le_of_ble_eq_true rfl) (Nat.le_of_ble_eq_true rfl) (Nat.le_of_ble_eq_true rfl) dX3_init_16 (fun q16 H hP hD hS => ?_)
  refine W.widen (k := 2) (n := 3688) (Nat.le_of_ble_eq_true rfl) (Nat.le_of_ble_eq_true rfl) ?_
  have hP : va_P D vwCl [(h0, .inr (3, [.ref q8, .null])), (q8, .inl (cI, 3680, .inl (fun _ => 0))), (q16, .inl (cI, 8, .inl (fun _ => 0)))] H := hP
  have hD : va_D A [(h0, .inr (3, [.ref q8, .null])), (q8, .inl (cI, 3680, .inl (fun _ => 0))), (q16, .inl (cI, 8, .inl (fun _ => 0)))] := hD
  refine va_putF (D := D) (ci := 3) (v := .ref q16) (ty := .array .int) (C := RX3) (T := TX3) (N := 2) hx hb hts (by decide +kernel) tyX3 tyX3_ok nmX3 hown hK hP hD hS 0 rfl rfl 1 (by decide) (hts (.fieldLink RX3 15 "FiberTrace$KeptTraces" "sizes" "[I") (by decide +kernel)) (fun _ h9 => h9) rfl hin rfl (by decide +kernel) rfl rfl (Nat.le_of_ble_eq_true rfl) dX3_init_18 (fun H locs hP hD hS => ?_)
  have hP : va_P D vwCl [(h0, .inr (3, [.ref q8, .ref q16])), (q8, .inl (cI, 3680, .inl (fun _ => 0))), (q16, .inl (cI, 8, .inl (fun _ => 0)))] H := hP
  have hD : va_D A [(h0, .inr (3, [.ref q8, .ref q16])), (q8, .inl (cI, 3680, .inl (fun _ => 0))), (q16, .inl (cI, 8, .inl (fun _ => 0)))] := hD
  obtain ⟨u9, hu9⟩ : ∃ u9 : Nat → Nat, u9 = fun k => ([q8, q16] : List Nat).getD k 0 := ⟨_, rfl⟩
  have hw9 : ([(h0, .inr (3, [.ref q8, .ref q16])), (q8, .inl (cI, 3680, .inl (fun _ => 0))), (q16, .inl (cI, 8, .inl (fun _ => 0)))] : va_W) = [(h0, .inr (3, [.ref (u9 0), .ref (u9 1)])), (u9 0, .inl (cI, 3680, .inl (fun _ => 0))), (u9 1, .inl (cI, 8, .inl (fun _ => 0)))] := by subst hu9; rfl
  rw [hw9] at hP hD
  exact W.vret hx hb hr (fun t ht hW => ⟨⟨u9, rfl, trivial, by rw [ht]; exact hP, by rw [hAe]; exact hD⟩, by rw [hAe]; exact hS.F ht⟩) hS.2.2 dX3_init_21
set_option maxHeartbeats 4000000 in
set_option maxRecDepth 100000 in
theorem c_X1_init (l : Launch) (D : va_G) (cI cS : ClassId) (sz : Nat) (h0 : Nat)  : Met l yX1_init wsX1_init ({ frames := 1, cells := 5, slots := 187, locals := 30 }) (ftRW D cI cS [.ref h0] [(h0, .inr (1, [.null, .null, .int 0, .null, .null, .null, .int 0]))] sz) (ftXv D [(h0, .inr (1, [.null, .null, .int 0, .null, .null, .null, .int 0]))] sz (fun (u : Nat → Nat) => True) (fun (u : Nat → Nat) => [(h0, .inr (1, [.ref (u 0), .ref (u 1), .int 0, .ref (u 2), .ref (u 3), .ref (u 4), .int 0])), (u 0, .inl (cI, 11, .inl (fun _ => 0))), (u 1, .inl (cI, 11, .inl (fun _ => 0))), (u 2, .inl (cI, 55, .inl (fun _ => 0))), (u 3, .inl (cI, 55, .inl (fun _ => 0))), (u 4, .inl (cI, 55, .inl (fun _ => 0)))])) 5 187 (va_A [(h0, .inr (1, [.null, .null, .int 0, .null, .null, .null, .int 0]))] sz) := by
  refine Met.ofW (cc := cX1_init) (maxL := 1) (ret := none) (by decide) rfl ?_
  intro p e s m args below meth c s₁ B hml hv
  obtain ⟨rfl, hsz, hP, hKK, hD0⟩ := hv
  have hK := hKK.1
  have hx := B.exec
  have hb := B.bytes
  have hr := B.returns
  have hts := atoms_spec (ws := wsX1_init) B.pre
  have hown : s.vm.findClass RX1 = some m.cls := findClass_of_methodNamed B.named
  have hlocks := B.notSynchronized
  subst hsz
  have hD := hD0.self (sz := s.heap.size)
  generalize hAe : va_A [(h0, .inr (1, [.null, .null, .int 0, .null, .null, .null, .int 0]))] s.heap.size = A at hD ⊢
  have hA : ∀ q : Nat, s.heap.size ≤ q → A q := fun q h => by rw [← hAe]; exact Or.inr h
  have hS : va_S A s.heap s.heap [] := va_S.rf
  have hD : va_D A [(h0, .inr (1, [.null, .null, .int 0, .null, .null, .null, .int 0]))] := hD
  have hP : va_P D vwCl [(h0, .inr (1, [.null, .null, .int 0, .null, .null, .null, .int 0]))] s.heap := hP
  have hl := lv_entry ([.ref h0]) (n := 1) (Nat.le_of_ble_eq_true rfl)
  rw [lg_entry_eq]
  generalize (lg_sl ([.ref h0]) ++ List.replicate (1 - (lg_sl ([.ref h0])).length) Slot.unset).toArray = ls at hl ⊢
  have hl : lv_has ls 1 [(0, .ref h0)] := hl
  have hin : meth.name = "<init>" := (name_of_methodNamed B.named B.method).1
  refine lv_aload_n hx hb dX1_init_0 rfl (lv_at hl 0 rfl) ?_
  refine W.objInit hx hb hown (hts (.methodLink RX1 3 objectInit) (by decide +kernel)) (hts (.instanceMethod objectInit) (by decide +kernel)) (hts (.code objectInit ⟨#[0xb1]⟩ 1 none) (List.mem_of_getElem? (i := 3) rfl)) rfl (by rw [hml]; exact hl.1) rfl dX1_init_1 (Nat.le_of_ble_eq_true rfl) (Nat.le_of_ble_eq_true rfl) ?_
  refine W.eq (g2 := F0 m 4 ls []) rfl ?_
  refine lv_aload_n hx hb dX1_init_4 rfl (lv_at hl 0 rfl) ?_
  refine lv_bipush (v := 11) hx hb dX1_init_5 (by decide) ?_
  refine ft_newI hx hb (hts (.arrayClass .int) (by decide +kernel)) hKK hP hD hS hA (N := 11) (by decide) (by decide) (Nat.le_of_ble_eq_true rfl) (Nat.le_of_ble_eq_true rfl) (Nat.le_of_ble_eq_true rfl) dX1_init_7 (fun q7 H hP hD hS => ?_)
  refine W.widen (k := 1) (n := 11) (Nat.le_of_ble_eq_true rfl) (Nat.le_of_ble_eq_true rfl) ?_
  have hP : va_P D vwCl [(h0, .inr (1, [.null, .null, .int 0, .null, .null, .null, .int 0])), (q7, .inl (cI, 11, .inl (fun _ => 0)))] H := hP
  have hD : va_D A [(h0, .inr (1, [.null, .null, .int 0, .null, .null, .null, .int 0])), (q7, .inl (cI, 11, .inl (fun _ => 0)))] := hD
  refine va_putF (D := D) (ci := 1) (v := .ref q7) (ty := .array .int) (C := RX1) (T := TX1) (N := 7) hx hb hts (by decide +kernel) tyX1 tyX1_ok nmX1 hown hK hP hD hS 0 rfl rfl 0 (by decide) (hts (.fieldLink RX1 9 "FiberTrace$Echoes" "places" "[I") (by decide +kernel)) (fun _ h9 => h9) rfl hin rfl (by decide +kernel) rfl rfl (Nat.le_of_ble_eq_true rfl) dX1_init_9 (fun H locs hP hD hS => ?_)
  have hP : va_P D vwCl [(h0, .inr (1, [.ref q7, .null, .int 0, .null, .null, .null, .int 0])), (q7, .inl (cI, 11, .inl (fun _ => 0)))] H := hP
  have hD : va_D A [(h0, .inr (1, [.ref q7, .null, .int 0, .null, .null, .null, .int 0])), (q7, .inl (cI, 11, .inl (fun _ => 0)))] := hD
  refine lv_aload_n hx hb dX1_init_12 rfl (lv_at hl 0 rfl) ?_
  refine lv_bipush (v := 11) hx hb dX1_init_13 (by decide) ?_
  refine ft_newI hx hb (hts (.arrayClass .int) (by decide +kernel)) hKK hP hD hS hA (N := 11) (by decide) (by decide) (Nat.le_of_ble_eq_true rfl) (Nat.le_of_ble_eq_true rfl) (Nat.le_of_ble_eq_true rfl) dX1_init_15 (fun q15 H hP hD hS => ?_)
  refine W.widen (k := 2) (n := 22) (Nat.le_of_ble_eq_true rfl) (Nat.le_of_ble_eq_true rfl) ?_
  have hP : va_P D vwCl [(h0, .inr (1, [.ref q7, .null, .int 0, .null, .null, .null, .int 0])), (q7, .inl (cI, 11, .inl (fun _ => 0))), (q15, .inl (cI, 11, .inl (fun _ => 0)))] H := hP
  have hD : va_D A [(h0, .inr (1, [.ref q7, .null, .int 0, .null, .null, .null, .int 0])), (q7, .inl (cI, 11, .inl (fun _ => 0))), (q15, .inl (cI, 11, .inl (fun _ => 0)))] := hD
  refine va_putF (D := D) (ci := 1) (v := .ref q15) (ty := .array .int) (C := RX1) (T := TX1) (N := 7) hx hb hts (by decide +kernel) tyX1 tyX1_ok nmX1 hown hK hP hD hS 0 rfl rfl 1 (by decide) (hts (.fieldLink RX1 15 "FiberTrace$Echoes" "heights" "[I") (by decide +kernel)) (fun _ h9 => h9) rfl hin rfl (by decide +kernel) rfl rfl (Nat.le_of_ble_eq_true rfl) dX1_init_17 (fun H locs hP hD hS => ?_)
  have hP : va_P D vwCl [(h0, .inr (1, [.ref q7, .ref q15, .int 0, .null, .null, .null, .int 0])), (q7, .inl (cI, 11, .inl (fun _ => 0))), (q15, .inl (cI, 11, .inl (fun _ => 0)))] H := hP
  have hD : va_D A [(h0, .inr (1, [.ref q7, .ref q15, .int 0, .null, .null, .null, .int 0])), (q7, .inl (cI, 11, .inl (fun _ => 0))), (q15, .inl (cI, 11, .inl (fun _ => 0)))] := hD
  refine lv_aload_n hx hb dX1_init_20 rfl (lv_at hl 0 rfl) ?_
  refine lv_bipush (v := 55) hx hb dX1_init_21 (by decide) ?_
  refine ft_newI hx hb (hts (.arrayClass .int) (by decide +kernel)) hKK hP hD hS hA (N := 55) (by decide) (by decide) (Nat.le_of_ble_eq_true rfl) (Nat.le_of_ble_eq_true rfl) (Nat.le_of_ble_eq_true rfl) dX1_init_23 (fun q23 H hP hD hS => ?_)
  refine W.widen (k := 3) (n := 77) (Nat.le_of_ble_eq_true rfl) (Nat.le_of_ble_eq_true rfl) ?_
  have hP : va_P D vwCl [(h0, .inr (1, [.ref q7, .ref q15, .int 0, .null, .null, .null, .int 0])), (q7, .inl (cI, 11, .inl (fun _ => 0))), (q15, .inl (cI, 11, .inl (fun _ => 0))), (q23, .inl (cI, 55, .inl (fun _ => 0)))] H := hP
  have hD : va_D A [(h0, .inr (1, [.ref q7, .ref q15, .int 0, .null, .null, .null, .int 0])), (q7, .inl (cI, 11, .inl (fun _ => 0))), (q15, .inl (cI, 11, .inl (fun _ => 0))), (q23, .inl (cI, 55, .inl (fun _ => 0)))] := hD
  refine va_putF (D := D) (ci := 1) (v := .ref q23) (ty := .array .int) (C := RX1) (T := TX1) (N := 7) hx hb hts (by decide +kernel) tyX1 tyX1_ok nmX1 hown hK hP hD hS 0 rfl rfl 3 (by decide) (hts (.fieldLink RX1 18 "FiberTrace$Echoes" "firsts" "[I") (by decide +kernel)) (fun _ h9 => h9) rfl hin rfl (by decide +kernel) rfl rfl (Nat.le_of_ble_eq_true rfl) dX1_init_25 (fun H locs hP hD hS => ?_)
  have hP : va_P D vwCl [(h0, .inr (1, [.ref q7, .ref q15, .int 0, .ref q23, .null, .null, .int 0])), (q7, .inl (cI, 11, .inl (fun _ => 0))), (q15, .inl (cI, 11, .inl (fun _ => 0))), (q23, .inl (cI, 55, .inl (fun _ => 0)))] H := hP
  have hD : va_D A [(h0, .inr (1, [.ref q7, .ref q15, .int 0, .ref q23, .null, .null, .int 0])), (q7, .inl (cI, 11, .inl (fun _ => 0))), (q15, .inl (cI, 11, .inl (fun _ => 0))), (q23, .inl (cI, 55, .inl (fun _ => 0)))] := hD
  refine lv_aload_n hx hb dX1_init_28 rfl (lv_at hl 0 rfl) ?_
  refine lv_bipush (v := 55) hx hb dX1_init_29 (by decide) ?_
  refine ft_newI hx hb (hts (.arrayClass .int) (by decide +kernel)) hKK hP hD hS hA (N := 55) (by decide) (by decide) (Nat.le_of_ble_eq_true rfl) (Nat.le_of_ble_eq_true rfl) (Nat.le_of_ble_eq_true rfl) dX1_init_31 (fun q31 H hP hD hS => ?_)
  refine W.widen (k := 4) (n := 132) (Nat.le_of_ble_eq_true rfl) (Nat.le_of_ble_eq_true rfl) ?_
  have hP : va_P D vwCl [(h0, .inr (1, [.ref q7, .ref q15, .int 0, .ref q23, .null, .null, .int 0])), (q7, .inl (cI, 11, .inl (fun _ => 0))), (q15, .inl (cI, 11, .inl (fun _ => 0))), (q23, .inl (cI, 55, .inl (fun _ => 0))), (q31, .inl (cI, 55, .inl (fun _ => 0)))] H := hP
  have hD : va_D A [(h0, .inr (1, [.ref q7, .ref q15, .int 0, .ref q23, .null, .null, .int 0])), (q7, .inl (cI, 11, .inl (fun _ => 0))), (q15, .inl (cI, 11, .inl (fun _ => 0))), (q23, .inl (cI, 55, .inl (fun _ => 0))), (q31, .inl (cI, 55, .inl (fun _ => 0)))] := hD
  refine va_putF (D := D) (ci := 1) (v := .ref q31) (ty := .array .int) (C := RX1) (T := TX1) (N := 7) hx hb hts (by decide +kernel) tyX1 tyX1_ok nmX1 hown hK hP hD hS 0 rfl rfl 4 (by decide) (hts (.fieldLink RX1 21 "FiberTrace$Echoes" "seconds" "[I") (by decide +kernel)) (fun _ h9 => h9) rfl hin rfl (by decide +kernel) rfl rfl (Nat.le_of_ble_eq_true rfl) dX1_init_33 (fun H locs hP hD hS => ?_)
  have hP : va_P D vwCl [(h0, .inr (1, [.ref q7, .ref q15, .int 0, .ref q23, .ref q31, .null, .int 0])), (q7, .inl (cI, 11, .inl (fun _ => 0))), (q15, .inl (cI, 11, .inl (fun _ => 0))), (q23, .inl (cI, 55, .inl (fun _ => 0))), (q31, .inl (cI, 55, .inl (fun _ => 0)))] H := hP
  have hD : va_D A [(h0, .inr (1, [.ref q7, .ref q15, .int 0, .ref q23, .ref q31, .null, .int 0])), (q7, .inl (cI, 11, .inl (fun _ => 0))), (q15, .inl (cI, 11, .inl (fun _ => 0))), (q23, .inl (cI, 55, .inl (fun _ => 0))), (q31, .inl (cI, 55, .inl (fun _ => 0)))] := hD
  refine lv_aload_n hx hb dX1_init_36 rfl (lv_at hl 0 rfl) ?_
  refine lv_bipush (v := 55) hx hb dX1_init_37 (by decide) ?_
  refine ft_newI hx hb (hts (.arrayClass .int) (by decide +kernel)) hKK hP hD hS hA (N := 55) (by decide) (by decide) (Nat.le_of_ble_eq_true rfl) (Nat.le_of_ble_eq_true rfl) (Nat.le_of_ble_eq_true rfl) dX1_init_39 (fun q39 H hP hD hS => ?_)
  refine W.widen (k := 5) (n := 187) (Nat.le_of_ble_eq_true rfl) (Nat.le_of_ble_eq_true rfl) ?_
  have hP : va_P D vwCl [(h0, .inr (1, [.ref q7, .ref q15, .int 0, .ref q23, .ref q31, .null, .int 0])), (q7, .inl (cI, 11, .inl (fun _ => 0))), (q15, .inl (cI, 11, .inl (fun _ => 0))), (q23, .inl (cI, 55, .inl (fun _ => 0))), (q31, .inl (cI, 55, .inl (fun _ => 0))), (q39, .inl (cI, 55, .inl (fun _ => 0)))] H := hP
  have hD : va_D A [(h0, .inr (1, [.ref q7, .ref q15, .int 0, .ref q23, .ref q31, .null, .int 0])), (q7, .inl (cI, 11, .inl (fun _ => 0))), (q15, .inl (cI, 11, .inl (fun _ => 0))), (q23, .inl (cI, 55, .inl (fun _ => 0))), (q31, .inl (cI, 55, .inl (fun _ => 0))), (q39, .inl (cI, 55, .inl (fun _ => 0)))] := hD
  refine va_putF (D := D) (ci := 1) (v := .ref q39) (ty := .array .int) (C := RX1) (T := TX1) (N := 7) hx hb hts (by decide +kernel) tyX1 tyX1_ok nmX1 hown hK hP hD hS 0 rfl rfl 5 (by decide) (hts (.fieldLink RX1 24 "FiberTrace$Echoes" "ghostHeights" "[I") (by decide +kernel)) (fun _ h9 => h9) rfl hin rfl (by decide +kernel) rfl rfl (Nat.le_of_ble_eq_true rfl) dX1_init_41 (fun H locs hP hD hS => ?_)
  have hP : va_P D vwCl [(h0, .inr (1, [.ref q7, .ref q15, .int 0, .ref q23, .ref q31, .ref q39, .int 0])), (q7, .inl (cI, 11, .inl (fun _ => 0))), (q15, .inl (cI, 11, .inl (fun _ => 0))), (q23, .inl (cI, 55, .inl (fun _ => 0))), (q31, .inl (cI, 55, .inl (fun _ => 0))), (q39, .inl (cI, 55, .inl (fun _ => 0)))] H := hP
  have hD : va_D A [(h0, .inr (1, [.ref q7, .ref q15, .int 0, .ref q23, .ref q31, .ref q39, .int 0])), (q7, .inl (cI, 11, .inl (fun _ => 0))), (q15, .inl (cI, 11, .inl (fun _ => 0))), (q23, .inl (cI, 55, .inl (fun _ => 0))), (q31, .inl (cI, 55, .inl (fun _ => 0))), (q39, .inl (cI, 55, .inl (fun _ => 0)))] := hD
  obtain ⟨u9, hu9⟩ : ∃ u9 : Nat → Nat, u9 = fun k => ([q7, q15, q23, q31, q39] : List Nat).getD k 0 := ⟨_, rfl⟩
  have hw9 : ([(h0, .inr (1, [.ref q7, .ref q15, .int 0, .ref q23, .ref q31, .ref q39, .int 0])), (q7, .inl (cI, 11, .inl (fun _ => 0))), (q15, .inl (cI, 11, .inl (fun _ => 0))), (q23, .inl (cI, 55, .inl (fun _ => 0))), (q31, .inl (cI, 55, .inl (fun _ => 0))), (q39, .inl (cI, 55, .inl (fun _ => 0)))] : va_W) = [(h0, .inr (1, [.ref (u9 0), .ref (u9 1), .int 0, .ref (u9 2), .ref (u9 3), .ref (u9 4), .int 0])), (u9 0, .inl (cI, 11, .inl (fun _ => 0))), (u9 1, .inl (cI, 11, .inl (fun _ => 0))), (u9 2, .inl (cI, 55, .inl (fun _ => 0))), (u9 3, .inl (cI, 55, .inl (fun _ => 0))), (u9 4, .inl (cI, 55, .inl (fun _ => 0)))] := by subst hu9; rfl
  rw [hw9] at hP hD
  exact W.vret hx hb hr (fun t ht hW => ⟨⟨u9, rfl, trivial, by rw [ht]; exact hP, by rw [hAe]; exact hD⟩, by rw [hAe]; exact hS.F ht⟩) hS.2.2 dX1_init_44
set_option maxHeartbeats 4000000 in
set_option maxRecDepth 100000 in
theorem c_X9_init (l : Launch) (D : va_G) (cI cS : ClassId) (sz : Nat) (h0 : Nat)  : Met l yX9_init wsX9_init ({ frames := 1, cells := 4, slots := 1840, locals := 30 }) (ftRW D cI cS [.ref h0] [(h0, .inr (9, [.null, .null, .null, .null, .int 0, .int 0, .int 0, .int 0, .int 0]))] sz) (ftXv D [(h0, .inr (9, [.null, .null, .null, .null, .int 0, .int 0, .int 0, .int 0, .int 0]))] sz (fun (u : Nat → Nat) => True) (fun (u : Nat → Nat) => [(h0, .inr (9, [.ref (u 0), .ref (u 1), .ref (u 2), .ref (u 3), .int 0, .int 0, .int 0, .int 0, .int 0])), (u 0, .inl (cI, 460, .inl (fun _ => 0))), (u 1, .inl (cI, 460, .inl (fun _ => 0))), (u 2, .inl (cI, 460, .inl (fun _ => 0))), (u 3, .inl (cI, 460, .inl (fun _ => 0)))])) 4 1840 (va_A [(h0, .inr (9, [.null, .null, .null, .null, .int 0, .int 0, .int 0, .int 0, .int 0]))] sz) := by
  refine Met.ofW (cc := cX9_init) (maxL := 1) (ret := none) (by decide) rfl ?_
  intro p e s m args below meth c s₁ B hml hv
  obtain ⟨rfl, hsz, hP, hKK, hD0⟩ := hv
  have hK := hKK.1
  have hx := B.exec
  have hb := B.bytes
  have hr := B.returns
  have hts := atoms_spec (ws := wsX9_init) B.pre
  have hown : s.vm.findClass RX9 = some m.cls := findClass_of_methodNamed B.named
  have hlocks := B.notSynchronized
  subst hsz
  have hD := hD0.self (sz := s.heap.size)
  generalize hAe : va_A [(h0, .inr (9, [.null, .null, .null, .null, .int 0, .int 0, .int 0, .int 0, .int 0]))] s.heap.size = A at hD ⊢
  have hA : ∀ q : Nat, s.heap.size ≤ q → A q := fun q h => by rw [← hAe]; exact Or.inr h
  have hS : va_S A s.heap s.heap [] := va_S.rf
  have hD : va_D A [(h0, .inr (9, [.null, .null, .null, .null, .int 0, .int 0, .int 0, .int 0, .int 0]))] := hD
  have hP : va_P D vwCl [(h0, .inr (9, [.null, .null, .null, .null, .int 0, .int 0, .int 0, .int 0, .int 0]))] s.heap := hP
  have hl := lv_entry ([.ref h0]) (n := 1) (Nat.le_of_ble_eq_true rfl)
  rw [lg_entry_eq]
  generalize (lg_sl ([.ref h0]) ++ List.replicate (1 - (lg_sl ([.ref h0])).length) Slot.unset).toArray = ls at hl ⊢
  have hl : lv_has ls 1 [(0, .ref h0)] := hl
  have hin : meth.name = "<init>" := (name_of_methodNamed B.named B.method).1
  refine lv_aload_n hx hb dX9_init_0 rfl (lv_at hl 0 rfl) ?_
  refine W.objInit hx hb hown (hts (.methodLink RX9 3 objectInit) (by decide +kernel)) (hts (.instanceMethod objectInit) (by decide +kernel)) (hts (.code objectInit ⟨#[0xb1]⟩ 1 none) (List.mem_of_getElem? (i := 3) rfl)) rfl (by rw [hml]; exact hl.1) rfl dX9_init_1 (Nat.le_of_ble_eq_true rfl) (Nat.le_of_ble_eq_true rfl) ?_
  refine W.eq (g2 := F0 m 4 ls []) rfl ?_
  refine lv_aload_n hx hb dX9_init_4 rfl (lv_at hl 0 rfl) ?_
  refine lv_sipush (v := 460) hx hb dX9_init_5 (by decide) ?_
  refine ft_newI hx hb (hts (.arrayClass .int) (by decide +kernel)) hKK hP hD hS hA (N := 460) (by decide) (by decide) (Nat.le_of_ble_eq_true rfl) (Nat.le_of_ble_eq_true rfl) (Nat.le_of_ble_eq_true rfl) dX9_init_8 (fun q8 H hP hD hS => ?_)
  refine W.widen (k := 1) (n := 460) (Nat.le_of_ble_eq_true rfl) (Nat.le_of_ble_eq_true rfl) ?_
  have hP : va_P D vwCl [(h0, .inr (9, [.null, .null, .null, .null, .int 0, .int 0, .int 0, .int 0, .int 0])), (q8, .inl (cI, 460, .inl (fun _ => 0)))] H := hP
  have hD : va_D A [(h0, .inr (9, [.null, .null, .null, .null, .int 0, .int 0, .int 0, .int 0, .int 0])), (q8, .inl (cI, 460, .inl (fun _ => 0)))] := hD
  refine va_putF (D := D) (ci := 9) (v := .ref q8) (ty := .array .int) (C := RX9) (T := TX9) (N := 9) hx hb hts (by decide +kernel) tyX9 tyX9_ok nmX9 hown hK hP hD hS 0 rfl rfl 0 (by decide) (hts (.fieldLink RX9 9 "FiberTrace$Trace" "base" "[I") (by decide +kernel)) (fun _ h9 => h9) rfl hin rfl (by decide +kernel) rfl rfl (Nat.le_of_ble_eq_true rfl) dX9_init_10 (fun H locs hP hD hS => ?_)
  have hP : va_P D vwCl [(h0, .inr (9, [.ref q8, .null, .null, .null, .int 0, .int 0, .int 0, .int 0, .int 0])), (q8, .inl (cI, 460, .inl (fun _ => 0)))] H := hP
  have hD : va_D A [(h0, .inr (9, [.ref q8, .null, .null, .null, .int 0, .int 0, .int 0, .int 0, .int 0])), (q8, .inl (cI, 460, .inl (fun _ => 0)))] := hD
  refine lv_aload_n hx hb dX9_init_13 rfl (lv_at hl 0 rfl) ?_
  refine lv_sipush (v := 460) hx hb dX9_init_14 (by decide) ?_
  refine ft_newI hx hb (hts (.arrayClass .int) (by decide +kernel)) hKK hP hD hS hA (N := 460) (by decide) (by decide) (Nat.le_of_ble_eq_true rfl) (Nat.le_of_ble_eq_true rfl) (Nat.le_of_ble_eq_true rfl) dX9_init_17 (fun q17 H hP hD hS => ?_)
  refine W.widen (k := 2) (n := 920) (Nat.le_of_ble_eq_true rfl) (Nat.le_of_ble_eq_true rfl) ?_
  have hP : va_P D vwCl [(h0, .inr (9, [.ref q8, .null, .null, .null, .int 0, .int 0, .int 0, .int 0, .int 0])), (q8, .inl (cI, 460, .inl (fun _ => 0))), (q17, .inl (cI, 460, .inl (fun _ => 0)))] H := hP
  have hD : va_D A [(h0, .inr (9, [.ref q8, .null, .null, .null, .int 0, .int 0, .int 0, .int 0, .int 0])), (q8, .inl (cI, 460, .inl (fun _ => 0))), (q17, .inl (cI, 460, .inl (fun _ => 0)))] := hD
  refine va_putF (D := D) (ci := 9) (v := .ref q17) (ty := .array .int) (C := RX9) (T := TX9) (N := 9) hx hb hts (by decide +kernel) tyX9 tyX9_ok nmX9 hown hK hP hD hS 0 rfl rfl 1 (by decide) (hts (.fieldLink RX9 15 "FiberTrace$Trace" "peaks" "[I") (by decide +kernel)) (fun _ h9 => h9) rfl hin rfl (by decide +kernel) rfl rfl (Nat.le_of_ble_eq_true rfl) dX9_init_19 (fun H locs hP hD hS => ?_)
  have hP : va_P D vwCl [(h0, .inr (9, [.ref q8, .ref q17, .null, .null, .int 0, .int 0, .int 0, .int 0, .int 0])), (q8, .inl (cI, 460, .inl (fun _ => 0))), (q17, .inl (cI, 460, .inl (fun _ => 0)))] H := hP
  have hD : va_D A [(h0, .inr (9, [.ref q8, .ref q17, .null, .null, .int 0, .int 0, .int 0, .int 0, .int 0])), (q8, .inl (cI, 460, .inl (fun _ => 0))), (q17, .inl (cI, 460, .inl (fun _ => 0)))] := hD
  refine lv_aload_n hx hb dX9_init_22 rfl (lv_at hl 0 rfl) ?_
  refine lv_sipush (v := 460) hx hb dX9_init_23 (by decide) ?_
  refine ft_newI hx hb (hts (.arrayClass .int) (by decide +kernel)) hKK hP hD hS hA (N := 460) (by decide) (by decide) (Nat.le_of_ble_eq_true rfl) (Nat.le_of_ble_eq_true rfl) (Nat.le_of_ble_eq_true rfl) dX9_init_26 (fun q26 H hP hD hS => ?_)
  refine W.widen (k := 3) (n := 1380) (Nat.le_of_ble_eq_true rfl) (Nat.le_of_ble_eq_true rfl) ?_
  have hP : va_P D vwCl [(h0, .inr (9, [.ref q8, .ref q17, .null, .null, .int 0, .int 0, .int 0, .int 0, .int 0])), (q8, .inl (cI, 460, .inl (fun _ => 0))), (q17, .inl (cI, 460, .inl (fun _ => 0))), (q26, .inl (cI, 460, .inl (fun _ => 0)))] H := hP
  have hD : va_D A [(h0, .inr (9, [.ref q8, .ref q17, .null, .null, .int 0, .int 0, .int 0, .int 0, .int 0])), (q8, .inl (cI, 460, .inl (fun _ => 0))), (q17, .inl (cI, 460, .inl (fun _ => 0))), (q26, .inl (cI, 460, .inl (fun _ => 0)))] := hD
  refine va_putF (D := D) (ci := 9) (v := .ref q26) (ty := .array .int) (C := RX9) (T := TX9) (N := 9) hx hb hts (by decide +kernel) tyX9 tyX9_ok nmX9 hown hK hP hD hS 0 rfl rfl 2 (by decide) (hts (.fieldLink RX9 18 "FiberTrace$Trace" "noise" "[I") (by decide +kernel)) (fun _ h9 => h9) rfl hin rfl (by decide +kernel) rfl rfl (Nat.le_of_ble_eq_true rfl) dX9_init_28 (fun H locs hP hD hS => ?_)
  have hP : va_P D vwCl [(h0, .inr (9, [.ref q8, .ref q17, .ref q26, .null, .int 0, .int 0, .int 0, .int 0, .int 0])), (q8, .inl (cI, 460, .inl (fun _ => 0))), (q17, .inl (cI, 460, .inl (fun _ => 0))), (q26, .inl (cI, 460, .inl (fun _ => 0)))] H := hP
  have hD : va_D A [(h0, .inr (9, [.ref q8, .ref q17, .ref q26, .null, .int 0, .int 0, .int 0, .int 0, .int 0])), (q8, .inl (cI, 460, .inl (fun _ => 0))), (q17, .inl (cI, 460, .inl (fun _ => 0))), (q26, .inl (cI, 460, .inl (fun _ => 0)))] := hD
  refine lv_aload_n hx hb dX9_init_31 rfl (lv_at hl 0 rfl) ?_
  refine lv_sipush (v := 460) hx hb dX9_init_32 (by decide) ?_
  refine ft_newI hx hb (hts (.arrayClass .int) (by decide +kernel)) hKK hP hD hS hA (N := 460) (by decide) (by decide) (Nat.le_of_ble_eq_true rfl) (Nat.le_of_ble_eq_true rfl) (Nat.le_of_ble_eq_true rfl) dX9_init_35 (fun q35 H hP hD hS => ?_)
  refine W.widen (k := 4) (n := 1840) (Nat.le_of_ble_eq_true rfl) (Nat.le_of_ble_eq_true rfl) ?_
  have hP : va_P D vwCl [(h0, .inr (9, [.ref q8, .ref q17, .ref q26, .null, .int 0, .int 0, .int 0, .int 0, .int 0])), (q8, .inl (cI, 460, .inl (fun _ => 0))), (q17, .inl (cI, 460, .inl (fun _ => 0))), (q26, .inl (cI, 460, .inl (fun _ => 0))), (q35, .inl (cI, 460, .inl (fun _ => 0)))] H := hP
  have hD : va_D A [(h0, .inr (9, [.ref q8, .ref q17, .ref q26, .null, .int 0, .int 0, .int 0, .int 0, .int 0])), (q8, .inl (cI, 460, .inl (fun _ => 0))), (q17, .inl (cI, 460, .inl (fun _ => 0))), (q26, .inl (cI, 460, .inl (fun _ => 0))), (q35, .inl (cI, 460, .inl (fun _ => 0)))] := hD
  refine va_putF (D := D) (ci := 9) (v := .ref q35) (ty := .array .int) (C := RX9) (T := TX9) (N := 9) hx hb hts (by decide +kernel) tyX9 tyX9_ok nmX9 hown hK hP hD hS 0 rfl rfl 3 (by decide) (hts (.fieldLink RX9 21 "FiberTrace$Trace" "samples" "[I") (by decide +kernel)) (fun _ h9 => h9) rfl hin rfl (by decide +kernel) rfl rfl (Nat.le_of_ble_eq_true rfl) dX9_init_37 (fun H locs hP hD hS => ?_)
  have hP : va_P D vwCl [(h0, .inr (9, [.ref q8, .ref q17, .ref q26, .ref q35, .int 0, .int 0, .int 0, .int 0, .int 0])), (q8, .inl (cI, 460, .inl (fun _ => 0))), (q17, .inl (cI, 460, .inl (fun _ => 0))), (q26, .inl (cI, 460, .inl (fun _ => 0))), (q35, .inl (cI, 460, .inl (fun _ => 0)))] H := hP
  have hD : va_D A [(h0, .inr (9, [.ref q8, .ref q17, .ref q26, .ref q35, .int 0, .int 0, .int 0, .int 0, .int 0])), (q8, .inl (cI, 460, .inl (fun _ => 0))), (q17, .inl (cI, 460, .inl (fun _ => 0))), (q26, .inl (cI, 460, .inl (fun _ => 0))), (q35, .inl (cI, 460, .inl (fun _ => 0)))] := hD
  obtain ⟨u9, hu9⟩ : ∃ u9 : Nat → Nat, u9 = fun k => ([q8, q17, q26, q35] : List Nat).getD k 0 := ⟨_, rfl⟩
  have hw9 : ([(h0, .inr (9, [.ref q8, .ref q17, .ref q26, .ref q35, .int 0, .int 0, .int 0, .int 0, .int 0])), (q8, .inl (cI, 460, .inl (fun _ => 0))), (q17, .inl (cI, 460, .inl (fun _ => 0))), (q26, .inl (cI, 460, .inl (fun _ => 0))), (q35, .inl (cI, 460, .inl (fun _ => 0)))] : va_W) = [(h0, .inr (9, [.ref (u9 0), .ref (u9 1), .ref (u9 2), .ref (u9 3), .int 0, .int 0, .int 0, .int 0, .int 0])), (u9 0, .inl (cI, 460, .inl (fun _ => 0))), (u9 1, .inl (cI, 460, .inl (fun _ => 0))), (u9 2, .inl (cI, 460, .inl (fun _ => 0))), (u9 3, .inl (cI, 460, .inl (fun _ => 0)))] := by subst hu9; rfl
  rw [hw9] at hP hD
  exact W.vret hx hb hr (fun t ht hW => ⟨⟨u9, rfl, trivial, by rw [ht]; exact hP, by rw [hAe]; exact hD⟩, by rw [hAe]; exact hS.F ht⟩) hS.2.2 dX9_init_40
set_option maxHeartbeats 4000000 in
set_option maxRecDepth 100000 in
theorem c_X7_init (l : Launch) (D : va_G) (cI cS : ClassId) (sz : Nat) (h0 : Nat)  : Met l yX7_init wsX7_init ({ frames := 1, cells := 8, slots := 240, locals := 30 }) (ftRW D cI cS [.ref h0] [(h0, .inr (7, [.null, .null, .null, .null, .null, .null, .null, .null, .int 0, .int 0]))] sz) (ftXv D [(h0, .inr (7, [.null, .null, .null, .null, .null, .null, .null, .null, .int 0, .int 0]))] sz (fun (u : Nat → Nat) => True) (fun (u : Nat → Nat) => [(h0, .inr (7, [.ref (u 0), .ref (u 1), .ref (u 2), .ref (u 3), .ref (u 4), .ref (u 5), .ref (u 6), .ref (u 7), .int 0, .int 0])), (u 0, .inl (cI, 30, .inl (fun _ => 0))), (u 1, .inl (cI, 30, .inl (fun _ => 0))), (u 2, .inl (cI, 30, .inl (fun _ => 0))), (u 3, .inl (cI, 30, .inl (fun _ => 0))), (u 4, .inl (cI, 30, .inl (fun _ => 0))), (u 5, .inl (cI, 30, .inl (fun _ => 0))), (u 6, .inl (cI, 30, .inl (fun _ => 0))), (u 7, .inl (cI, 30, .inl (fun _ => 0)))])) 8 240 (va_A [(h0, .inr (7, [.null, .null, .null, .null, .null, .null, .null, .null, .int 0, .int 0]))] sz) := by
  refine Met.ofW (cc := cX7_init) (maxL := 1) (ret := none) (by decide) rfl ?_
  intro p e s m args below meth c s₁ B hml hv
  obtain ⟨rfl, hsz, hP, hKK, hD0⟩ := hv
  have hK := hKK.1
  have hx := B.exec
  have hb := B.bytes
  have hr := B.returns
  have hts := atoms_spec (ws := wsX7_init) B.pre
  have hown : s.vm.findClass RX7 = some m.cls := findClass_of_methodNamed B.named
  have hlocks := B.notSynchronized
  subst hsz
  have hD := hD0.self (sz := s.heap.size)
  generalize hAe : va_A [(h0, .inr (7, [.null, .null, .null, .null, .null, .null, .null, .null, .int 0, .int 0]))] s.heap.size = A at hD ⊢
  have hA : ∀ q : Nat, s.heap.size ≤ q → A q := fun q h => by rw [← hAe]; exact Or.inr h
  have hS : va_S A s.heap s.heap [] := va_S.rf
  have hD : va_D A [(h0, .inr (7, [.null, .null, .null, .null, .null, .null, .null, .null, .int 0, .int 0]))] := hD
  have hP : va_P D vwCl [(h0, .inr (7, [.null, .null, .null, .null, .null, .null, .null, .null, .int 0, .int 0]))] s.heap := hP
  have hl := lv_entry ([.ref h0]) (n := 1) (Nat.le_of_ble_eq_true rfl)
  rw [lg_entry_eq]
  generalize (lg_sl ([.ref h0]) ++ List.replicate (1 - (lg_sl ([.ref h0])).length) Slot.unset).toArray = ls at hl ⊢
  have hl : lv_has ls 1 [(0, .ref h0)] := hl
  have hin : meth.name = "<init>" := (name_of_methodNamed B.named B.method).1
  refine lv_aload_n hx hb dX7_init_0 rfl (lv_at hl 0 rfl) ?_
  refine W.objInit hx hb hown (hts (.methodLink RX7 3 objectInit) (by decide +kernel)) (hts (.instanceMethod objectInit) (by decide +kernel)) (hts (.code objectInit ⟨#[0xb1]⟩ 1 none) (List.mem_of_getElem? (i := 3) rfl)) rfl (by rw [hml]; exact hl.1) rfl dX7_init_1 (Nat.le_of_ble_eq_true rfl) (Nat.le_of_ble_eq_true rfl) ?_
  refine W.eq (g2 := F0 m 4 ls []) rfl ?_
  refine lv_aload_n hx hb dX7_init_4 rfl (lv_at hl 0 rfl) ?_
  refine lv_bipush (v := 30) hx hb dX7_init_5 (by decide) ?_
  refine ft_newI hx hb (hts (.arrayClass .int) (by decide +kernel)) hKK hP hD hS hA (N := 30) (by decide) (by decide) (Nat.le_of_ble_eq_true rfl) (Nat.le_of_ble_eq_true rfl) (Nat.le_of_ble_eq_true rfl) dX7_init_7 (fun q7 H hP hD hS => ?_)
  refine W.widen (k := 1) (n := 30) (Nat.le_of_ble_eq_true rfl) (Nat.le_of_ble_eq_true rfl) ?_
  have hP : va_P D vwCl [(h0, .inr (7, [.null, .null, .null, .null, .null, .null, .null, .null, .int 0, .int 0])), (q7, .inl (cI, 30, .inl (fun _ => 0)))] H := hP
  have hD : va_D A [(h0, .inr (7, [.null, .null, .null, .null, .null, .null, .null, .null, .int 0, .int 0])), (q7, .inl (cI, 30, .inl (fun _ => 0)))] := hD
  refine va_putF (D := D) (ci := 7) (v := .ref q7) (ty := .array .int) (C := RX7) (T := TX7) (N := 10) hx hb hts (by decide +kernel) tyX7 tyX7_ok nmX7 hown hK hP hD hS 0 rfl rfl 0 (by decide) (hts (.fieldLink RX7 9 "FiberTrace$Reading" "begins" "[I") (by decide +kernel)) (fun _ h9 => h9) rfl hin rfl (by decide +kernel) rfl rfl (Nat.le_of_ble_eq_true rfl) dX7_init_9 (fun H locs hP hD hS => ?_)
  have hP : va_P D vwCl [(h0, .inr (7, [.ref q7, .null, .null, .null, .null, .null, .null, .null, .int 0, .int 0])), (q7, .inl (cI, 30, .inl (fun _ => 0)))] H := hP
  have hD : va_D A [(h0, .inr (7, [.ref q7, .null, .null, .null, .null, .null, .null, .null, .int 0, .int 0])), (q7, .inl (cI, 30, .inl (fun _ => 0)))] := hD
  refine lv_aload_n hx hb dX7_init_12 rfl (lv_at hl 0 rfl) ?_
  refine lv_bipush (v := 30) hx hb dX7_init_13 (by decide) ?_
  refine ft_newI hx hb (hts (.arrayClass .int) (by decide +kernel)) hKK hP hD hS hA (N := 30) (by decide) (by decide) (Nat.le_of_ble_eq_true rfl) (Nat.le_of_ble_eq_true rfl) (Nat.le_of_ble_eq_true rfl) dX7_init_15 (fun q15 H hP hD hS => ?_)
  refine W.widen (k := 2) (n := 60) (Nat.le_of_ble_eq_true rfl) (Nat.le_of_ble_eq_true rfl) ?_
  have hP : va_P D vwCl [(h0, .inr (7, [.ref q7, .null, .null, .null, .null, .null, .null, .null, .int 0, .int 0])), (q7, .inl (cI, 30, .inl (fun _ => 0))), (q15, .inl (cI, 30, .inl (fun _ => 0)))] H := hP
  have hD : va_D A [(h0, .inr (7, [.ref q7, .null, .null, .null, .null, .null, .null, .null, .int 0, .int 0])), (q7, .inl (cI, 30, .inl (fun _ => 0))), (q15, .inl (cI, 30, .inl (fun _ => 0)))] := hD
  refine va_putF (D := D) (ci := 7) (v := .ref q15) (ty := .array .int) (C := RX7) (T := TX7) (N := 10) hx hb hts (by decide +kernel) tyX7 tyX7_ok nmX7 hown hK hP hD hS 0 rfl rfl 1 (by decide) (hts (.fieldLink RX7 15 "FiberTrace$Reading" "ends" "[I") (by decide +kernel)) (fun _ h9 => h9) rfl hin rfl (by decide +kernel) rfl rfl (Nat.le_of_ble_eq_true rfl) dX7_init_17 (fun H locs hP hD hS => ?_)
  have hP : va_P D vwCl [(h0, .inr (7, [.ref q7, .ref q15, .null, .null, .null, .null, .null, .null, .int 0, .int 0])), (q7, .inl (cI, 30, .inl (fun _ => 0))), (q15, .inl (cI, 30, .inl (fun _ => 0)))] H := hP
  have hD : va_D A [(h0, .inr (7, [.ref q7, .ref q15, .null, .null, .null, .null, .null, .null, .int 0, .int 0])), (q7, .inl (cI, 30, .inl (fun _ => 0))), (q15, .inl (cI, 30, .inl (fun _ => 0)))] := hD
  refine lv_aload_n hx hb dX7_init_20 rfl (lv_at hl 0 rfl) ?_
  refine lv_bipush (v := 30) hx hb dX7_init_21 (by decide) ?_
  refine ft_newI hx hb (hts (.arrayClass .int) (by decide +kernel)) hKK hP hD hS hA (N := 30) (by decide) (by decide) (Nat.le_of_ble_eq_true rfl) (Nat.le_of_ble_eq_true rfl) (Nat.le_of_ble_eq_true rfl) dX7_init_23 (fun q23 H hP hD hS => ?_)
  refine W.widen (k := 3) (n := 90) (Nat.le_of_ble_eq_true rfl) (Nat.le_of_ble_eq_true rfl) ?_
  have hP : va_P D vwCl [(h0, .inr (7, [.ref q7, .ref q15, .null, .null, .null, .null, .null, .null, .int 0, .int 0])), (q7, .inl (cI, 30, .inl (fun _ => 0))), (q15, .inl (cI, 30, .inl (fun _ => 0))), (q23, .inl (cI, 30, .inl (fun _ => 0)))] H := hP
  have hD : va_D A [(h0, .inr (7, [.ref q7, .ref q15, .null, .null, .null, .null, .null, .null, .int 0, .int 0])), (q7, .inl (cI, 30, .inl (fun _ => 0))), (q15, .inl (cI, 30, .inl (fun _ => 0))), (q23, .inl (cI, 30, .inl (fun _ => 0)))] := hD
  refine va_putF (D := D) (ci := 7) (v := .ref q23) (ty := .array .int) (C := RX7) (T := TX7) (N := 10) hx hb hts (by decide +kernel) tyX7 tyX7_ok nmX7 hown hK hP hD hS 0 rfl rfl 2 (by decide) (hts (.fieldLink RX7 18 "FiberTrace$Reading" "losses" "[I") (by decide +kernel)) (fun _ h9 => h9) rfl hin rfl (by decide +kernel) rfl rfl (Nat.le_of_ble_eq_true rfl) dX7_init_25 (fun H locs hP hD hS => ?_)
  have hP : va_P D vwCl [(h0, .inr (7, [.ref q7, .ref q15, .ref q23, .null, .null, .null, .null, .null, .int 0, .int 0])), (q7, .inl (cI, 30, .inl (fun _ => 0))), (q15, .inl (cI, 30, .inl (fun _ => 0))), (q23, .inl (cI, 30, .inl (fun _ => 0)))] H := hP
  have hD : va_D A [(h0, .inr (7, [.ref q7, .ref q15, .ref q23, .null, .null, .null, .null, .null, .int 0, .int 0])), (q7, .inl (cI, 30, .inl (fun _ => 0))), (q15, .inl (cI, 30, .inl (fun _ => 0))), (q23, .inl (cI, 30, .inl (fun _ => 0)))] := hD
  refine lv_aload_n hx hb dX7_init_28 rfl (lv_at hl 0 rfl) ?_
  refine lv_bipush (v := 30) hx hb dX7_init_29 (by decide) ?_
  refine ft_newI hx hb (hts (.arrayClass .int) (by decide +kernel)) hKK hP hD hS hA (N := 30) (by decide) (by decide) (Nat.le_of_ble_eq_true rfl) (Nat.le_of_ble_eq_true rfl) (Nat.le_of_ble_eq_true rfl) dX7_init_31 (fun q31 H hP hD hS => ?_)
  refine W.widen (k := 4) (n := 120) (Nat.le_of_ble_eq_true rfl) (Nat.le_of_ble_eq_true rfl) ?_
  have hP : va_P D vwCl [(h0, .inr (7, [.ref q7, .ref q15, .ref q23, .null, .null, .null, .null, .null, .int 0, .int 0])), (q7, .inl (cI, 30, .inl (fun _ => 0))), (q15, .inl (cI, 30, .inl (fun _ => 0))), (q23, .inl (cI, 30, .inl (fun _ => 0))), (q31, .inl (cI, 30, .inl (fun _ => 0)))] H := hP
  have hD : va_D A [(h0, .inr (7, [.ref q7, .ref q15, .ref q23, .null, .null, .null, .null, .null, .int 0, .int 0])), (q7, .inl (cI, 30, .inl (fun _ => 0))), (q15, .inl (cI, 30, .inl (fun _ => 0))), (q23, .inl (cI, 30, .inl (fun _ => 0))), (q31, .inl (cI, 30, .inl (fun _ => 0)))] := hD
  refine va_putF (D := D) (ci := 7) (v := .ref q31) (ty := .array .int) (C := RX7) (T := TX7) (N := 10) hx hb hts (by decide +kernel) tyX7 tyX7_ok nmX7 hown hK hP hD hS 0 rfl rfl 3 (by decide) (hts (.fieldLink RX7 21 "FiberTrace$Reading" "heights" "[I") (by decide +kernel)) (fun _ h9 => h9) rfl hin rfl (by decide +kernel) rfl rfl (Nat.le_of_ble_eq_true rfl) dX7_init_33 (fun H locs hP hD hS => ?_)
  have hP : va_P D vwCl [(h0, .inr (7, [.ref q7, .ref q15, .ref q23, .ref q31, .null, .null, .null, .null, .int 0, .int 0])), (q7, .inl (cI, 30, .inl (fun _ => 0))), (q15, .inl (cI, 30, .inl (fun _ => 0))), (q23, .inl (cI, 30, .inl (fun _ => 0))), (q31, .inl (cI, 30, .inl (fun _ => 0)))] H := hP
  have hD : va_D A [(h0, .inr (7, [.ref q7, .ref q15, .ref q23, .ref q31, .null, .null, .null, .null, .int 0, .int 0])), (q7, .inl (cI, 30, .inl (fun _ => 0))), (q15, .inl (cI, 30, .inl (fun _ => 0))), (q23, .inl (cI, 30, .inl (fun _ => 0))), (q31, .inl (cI, 30, .inl (fun _ => 0)))] := hD
  refine lv_aload_n hx hb dX7_init_36 rfl (lv_at hl 0 rfl) ?_
  refine lv_bipush (v := 30) hx hb dX7_init_37 (by decide) ?_
  refine ft_newI hx hb (hts (.arrayClass .int) (by decide +kernel)) hKK hP hD hS hA (N := 30) (by decide) (by decide) (Nat.le_of_ble_eq_true rfl) (Nat.le_of_ble_eq_true rfl) (Nat.le_of_ble_eq_true rfl) dX7_init_39 (fun q39 H hP hD hS => ?_)
  refine W.widen (k := 5) (n := 150) (Nat.le_of_ble_eq_true rfl) (Nat.le_of_ble_eq_true rfl) ?_
  have hP : va_P D vwCl [(h0, .inr (7, [.ref q7, .ref q15, .ref q23, .ref q31, .null, .null, .null, .null, .int 0, .int 0])), (q7, .inl (cI, 30, .inl (fun _ => 0))), (q15, .inl (cI, 30, .inl (fun _ => 0))), (q23, .inl (cI, 30, .inl (fun _ => 0))), (q31, .inl (cI, 30, .inl (fun _ => 0))), (q39, .inl (cI, 30, .inl (fun _ => 0)))] H := hP
  have hD : va_D A [(h0, .inr (7, [.ref q7, .ref q15, .ref q23, .ref q31, .null, .null, .null, .null, .int 0, .int 0])), (q7, .inl (cI, 30, .inl (fun _ => 0))), (q15, .inl (cI, 30, .inl (fun _ => 0))), (q23, .inl (cI, 30, .inl (fun _ => 0))), (q31, .inl (cI, 30, .inl (fun _ => 0))), (q39, .inl (cI, 30, .inl (fun _ => 0)))] := hD
  refine va_putF (D := D) (ci := 7) (v := .ref q39) (ty := .array .int) (C := RX7) (T := TX7) (N := 10) hx hb hts (by decide +kernel) tyX7 tyX7_ok nmX7 hown hK hP hD hS 0 rfl rfl 4 (by decide) (hts (.fieldLink RX7 24 "FiberTrace$Reading" "kinds" "[I") (by decide +kernel)) (fun _ h9 => h9) rfl hin rfl (by decide +kernel) rfl rfl (Nat.le_of_ble_eq_true rfl) dX7_init_41 (fun H locs hP hD hS => ?_)
  have hP : va_P D vwCl [(h0, .inr (7, [.ref q7, .ref q15, .ref q23, .ref q31, .ref q39, .null, .null, .null, .int 0, .int 0])), (q7, .inl (cI, 30, .inl (fun _ => 0))), (q15, .inl (cI, 30, .inl (fun _ => 0))), (q23, .inl (cI, 30, .inl (fun _ => 0))), (q31, .inl (cI, 30, .inl (fun _ => 0))), (q39, .inl (cI, 30, .inl (fun _ => 0)))] H := hP
  have hD : va_D A [(h0, .inr (7, [.ref q7, .ref q15, .ref q23, .ref q31, .ref q39, .null, .null, .null, .int 0, .int 0])), (q7, .inl (cI, 30, .inl (fun _ => 0))), (q15, .inl (cI, 30, .inl (fun _ => 0))), (q23, .inl (cI, 30, .inl (fun _ => 0))), (q31, .inl (cI, 30, .inl (fun _ => 0))), (q39, .inl (cI, 30, .inl (fun _ => 0)))] := hD
  refine lv_aload_n hx hb dX7_init_44 rfl (lv_at hl 0 rfl) ?_
  refine lv_bipush (v := 30) hx hb dX7_init_45 (by decide) ?_
  refine ft_newI hx hb (hts (.arrayClass .int) (by decide +kernel)) hKK hP hD hS hA (N := 30) (by decide) (by decide) (Nat.le_of_ble_eq_true rfl) (Nat.le_of_ble_eq_true rfl) (Nat.le_of_ble_eq_true rfl) dX7_init_47 (fun q47 H hP hD hS => ?_)
  refine W.widen (k := 6) (n := 180) (Nat.le_of_ble_eq_true rfl) (Nat.le_of_ble_eq_true rfl) ?_
  have hP : va_P D vwCl [(h0, .inr (7, [.ref q7, .ref q15, .ref q23, .ref q31, .ref q39, .null, .null, .null, .int 0, .int 0])), (q7, .inl (cI, 30, .inl (fun _ => 0))), (q15, .inl (cI, 30, .inl (fun _ => 0))), (q23, .inl (cI, 30, .inl (fun _ => 0))), (q31, .inl (cI, 30, .inl (fun _ => 0))), (q39, .inl (cI, 30, .inl (fun _ => 0))), (q47, .inl (cI, 30, .inl (fun _ => 0)))] H := hP
  have hD : va_D A [(h0, .inr (7, [.ref q7, .ref q15, .ref q23, .ref q31, .ref q39, .null, .null, .null, .int 0, .int 0])), (q7, .inl (cI, 30, .inl (fun _ => 0))), (q15, .inl (cI, 30, .inl (fun _ => 0))), (q23, .inl (cI, 30, .inl (fun _ => 0))), (q31, .inl (cI, 30, .inl (fun _ => 0))), (q39, .inl (cI, 30, .inl (fun _ => 0))), (q47, .inl (cI, 30, .inl (fun _ => 0)))] := hD
  refine va_putF (D := D) (ci := 7) (v := .ref q47) (ty := .array .int) (C := RX7) (T := TX7) (N := 10) hx hb hts (by decide +kernel) tyX7 tyX7_ok nmX7 hown hK hP hD hS 0 rfl rfl 5 (by decide) (hts (.fieldLink RX7 27 "FiberTrace$Reading" "sectionLosses" "[I") (by decide +kernel)) (fun _ h9 => h9) rfl hin rfl (by decide +kernel) rfl rfl (Nat.le_of_ble_eq_true rfl) dX7_init_49 (fun H locs hP hD hS => ?_)
  have hP : va_P D vwCl [(h0, .inr (7, [.ref q7, .ref q15, .ref q23, .ref q31, .ref q39, .ref q47, .null, .null, .int 0, .int 0])), (q7, .inl (cI, 30, .inl (fun _ => 0))), (q15, .inl (cI, 30, .inl (fun _ => 0))), (q23, .inl (cI, 30, .inl (fun _ => 0))), (q31, .inl (cI, 30, .inl (fun _ => 0))), (q39, .inl (cI, 30, .inl (fun _ => 0))), (q47, .inl (cI, 30, .inl (fun _ => 0)))] H := hP
  have hD : va_D A [(h0, .inr (7, [.ref q7, .ref q15, .ref q23, .ref q31, .ref q39, .ref q47, .null, .null, .int 0, .int 0])), (q7, .inl (cI, 30, .inl (fun _ => 0))), (q15, .inl (cI, 30, .inl (fun _ => 0))), (q23, .inl (cI, 30, .inl (fun _ => 0))), (q31, .inl (cI, 30, .inl (fun _ => 0))), (q39, .inl (cI, 30, .inl (fun _ => 0))), (q47, .inl (cI, 30, .inl (fun _ => 0)))] := hD
  refine lv_aload_n hx hb dX7_init_52 rfl (lv_at hl 0 rfl) ?_
  refine lv_bipush (v := 30) hx hb dX7_init_53 (by decide) ?_
  refine ft_newI hx hb (hts (.arrayClass .int) (by decide +kernel)) hKK hP hD hS hA (N := 30) (by decide) (by decide) (Nat.le_of_ble_eq_true rfl) (Nat.le_of_ble_eq_true rfl) (Nat.le_of_ble_eq_true rfl) dX7_init_55 (fun q55 H hP hD hS => ?_)
  refine W.widen (k := 7) (n := 210) (Nat.le_of_ble_eq_true rfl) (Nat.le_of_ble_eq_true rfl) ?_
  have hP : va_P D vwCl [(h0, .inr (7, [.ref q7, .ref q15, .ref q23, .ref q31, .ref q39, .ref q47, .null, .null, .int 0, .int 0])), (q7, .inl (cI, 30, .inl (fun _ => 0))), (q15, .inl (cI, 30, .inl (fun _ => 0))), (q23, .inl (cI, 30, .inl (fun _ => 0))), (q31, .inl (cI, 30, .inl (fun _ => 0))), (q39, .inl (cI, 30, .inl (fun _ => 0))), (q47, .inl (cI, 30, .inl (fun _ => 0))), (q55, .inl (cI, 30, .inl (fun _ => 0)))] H := hP
  have hD : va_D A [(h0, .inr (7, [.ref q7, .ref q15, .ref q23, .ref q31, .ref q39, .ref q47, .null, .null, .int 0, .int 0])), (q7, .inl (cI, 30, .inl (fun _ => 0))), (q15, .inl (cI, 30, .inl (fun _ => 0))), (q23, .inl (cI, 30, .inl (fun _ => 0))), (q31, .inl (cI, 30, .inl (fun _ => 0))), (q39, .inl (cI, 30, .inl (fun _ => 0))), (q47, .inl (cI, 30, .inl (fun _ => 0))), (q55, .inl (cI, 30, .inl (fun _ => 0)))] := hD
  refine va_putF (D := D) (ci := 7) (v := .ref q55) (ty := .array .int) (C := RX7) (T := TX7) (N := 10) hx hb hts (by decide +kernel) tyX7 tyX7_ok nmX7 hown hK hP hD hS 0 rfl rfl 6 (by decide) (hts (.fieldLink RX7 30 "FiberTrace$Reading" "firstMakers" "[I") (by decide +kernel)) (fun _ h9 => h9) rfl hin rfl (by decide +kernel) rfl rfl (Nat.le_of_ble_eq_true rfl) dX7_init_57 (fun H locs hP hD hS => ?_)
  have hP : va_P D vwCl [(h0, .inr (7, [.ref q7, .ref q15, .ref q23, .ref q31, .ref q39, .ref q47, .ref q55, .null, .int 0, .int 0])), (q7, .inl (cI, 30, .inl (fun _ => 0))), (q15, .inl (cI, 30, .inl (fun _ => 0))), (q23, .inl (cI, 30, .inl (fun _ => 0))), (q31, .inl (cI, 30, .inl (fun _ => 0))), (q39, .inl (cI, 30, .inl (fun _ => 0))), (q47, .inl (cI, 30, .inl (fun _ => 0))), (q55, .inl (cI, 30, .inl (fun _ => 0)))] H := hP
  have hD : va_D A [(h0, .inr (7, [.ref q7, .ref q15, .ref q23, .ref q31, .ref q39, .ref q47, .ref q55, .null, .int 0, .int 0])), (q7, .inl (cI, 30, .inl (fun _ => 0))), (q15, .inl (cI, 30, .inl (fun _ => 0))), (q23, .inl (cI, 30, .inl (fun _ => 0))), (q31, .inl (cI, 30, .inl (fun _ => 0))), (q39, .inl (cI, 30, .inl (fun _ => 0))), (q47, .inl (cI, 30, .inl (fun _ => 0))), (q55, .inl (cI, 30, .inl (fun _ => 0)))] := hD
  refine lv_aload_n hx hb dX7_init_60 rfl (lv_at hl 0 rfl) ?_
  refine lv_bipush (v := 30) hx hb dX7_init_61 (by decide) ?_
  refine ft_newI hx hb (hts (.arrayClass .int) (by decide +kernel)) hKK hP hD hS hA (N := 30) (by decide) (by decide) (Nat.le_of_ble_eq_true rfl) (Nat.le_of_ble_eq_true rfl) (Nat.le_of_ble_eq_true rfl) dX7_init_63 (fun q63 H hP hD hS => ?_)
  refine W.widen (k := 8) (n := 240) (Nat.le_of_ble_eq_true rfl) (Nat.le_of_ble_eq_true rfl) ?_
  have hP : va_P D vwCl [(h0, .inr (7, [.ref q7, .ref q15, .ref q23, .ref q31, .ref q39, .ref q47, .ref q55, .null, .int 0, .int 0])), (q7, .inl (cI, 30, .inl (fun _ => 0))), (q15, .inl (cI, 30, .inl (fun _ => 0))), (q23, .inl (cI, 30, .inl (fun _ => 0))), (q31, .inl (cI, 30, .inl (fun _ => 0))), (q39, .inl (cI, 30, .inl (fun _ => 0))), (q47, .inl (cI, 30, .inl (fun _ => 0))), (q55, .inl (cI, 30, .inl (fun _ => 0))), (q63, .inl (cI, 30, .inl (fun _ => 0)))] H := hP
  have hD : va_D A [(h0, .inr (7, [.ref q7, .ref q15, .ref q23, .ref q31, .ref q39, .ref q47, .ref q55, .null, .int 0, .int 0])), (q7, .inl (cI, 30, .inl (fun _ => 0))), (q15, .inl (cI, 30, .inl (fun _ => 0))), (q23, .inl (cI, 30, .inl (fun _ => 0))), (q31, .inl (cI, 30, .inl (fun _ => 0))), (q39, .inl (cI, 30, .inl (fun _ => 0))), (q47, .inl (cI, 30, .inl (fun _ => 0))), (q55, .inl (cI, 30, .inl (fun _ => 0))), (q63, .inl (cI, 30, .inl (fun _ => 0)))] := hD
  refine va_putF (D := D) (ci := 7) (v := .ref q63) (ty := .array .int) (C := RX7) (T := TX7) (N := 10) hx hb hts (by decide +kernel) tyX7 tyX7_ok nmX7 hown hK hP hD hS 0 rfl rfl 7 (by decide) (hts (.fieldLink RX7 33 "FiberTrace$Reading" "secondMakers" "[I") (by decide +kernel)) (fun _ h9 => h9) rfl hin rfl (by decide +kernel) rfl rfl (Nat.le_of_ble_eq_true rfl) dX7_init_65 (fun H locs hP hD hS => ?_)
  have hP : va_P D vwCl [(h0, .inr (7, [.ref q7, .ref q15, .ref q23, .ref q31, .ref q39, .ref q47, .ref q55, .ref q63, .int 0, .int 0])), (q7, .inl (cI, 30, .inl (fun _ => 0))), (q15, .inl (cI, 30, .inl (fun _ => 0))), (q23, .inl (cI, 30, .inl (fun _ => 0))), (q31, .inl (cI, 30, .inl (fun _ => 0))), (q39, .inl (cI, 30, .inl (fun _ => 0))), (q47, .inl (cI, 30, .inl (fun _ => 0))), (q55, .inl (cI, 30, .inl (fun _ => 0))), (q63, .inl (cI, 30, .inl (fun _ => 0)))] H := hP
  have hD : va_D A [(h0, .inr (7, [.ref q7, .ref q15, .ref q23, .ref q31, .ref q39, .ref q47, .ref q55, .ref q63, .int 0, .int 0])), (q7, .inl (cI, 30, .inl (fun _ => 0))), (q15, .inl (cI, 30, .inl (fun _ => 0))), (q23, .inl (cI, 30, .inl (fun _ => 0))), (q31, .inl (cI, 30, .inl (fun _ => 0))), (q39, .inl (cI, 30, .inl (fun _ => 0))), (q47, .inl (cI, 30, .inl (fun _ => 0))), (q55, .inl (cI, 30, .inl (fun _ => 0))), (q63, .inl (cI, 30, .inl (fun _ => 0)))] := hD
  obtain ⟨u9, hu9⟩ : ∃ u9 : Nat → Nat, u9 = fun k => ([q7, q15, q23, q31, q39, q47, q55, q63] : List Nat).getD k 0 := ⟨_, rfl⟩
  have hw9 : ([(h0, .inr (7, [.ref q7, .ref q15, .ref q23, .ref q31, .ref q39, .ref q47, .ref q55, .ref q63, .int 0, .int 0])), (q7, .inl (cI, 30, .inl (fun _ => 0))), (q15, .inl (cI, 30, .inl (fun _ => 0))), (q23, .inl (cI, 30, .inl (fun _ => 0))), (q31, .inl (cI, 30, .inl (fun _ => 0))), (q39, .inl (cI, 30, .inl (fun _ => 0))), (q47, .inl (cI, 30, .inl (fun _ => 0))), (q55, .inl (cI, 30, .inl (fun _ => 0))), (q63, .inl (cI, 30, .inl (fun _ => 0)))] : va_W) = [(h0, .inr (7, [.ref (u9 0), .ref (u9 1), .ref (u9 2), .ref (u9 3), .ref (u9 4), .ref (u9 5), .ref (u9 6), .ref (u9 7), .int 0, .int 0])), (u9 0, .inl (cI, 30, .inl (fun _ => 0))), (u9 1, .inl (cI, 30, .inl (fun _ => 0))), (u9 2, .inl (cI, 30, .inl (fun _ => 0))), (u9 3, .inl (cI, 30, .inl (fun _ => 0))), (u9 4, .inl (cI, 30, .inl (fun _ => 0))), (u9 5, .inl (cI, 30, .inl (fun _ => 0))), (u9 6, .inl (cI, 30, .inl (fun _ => 0))), (u9 7, .inl (cI, 30, .inl (fun _ => 0)))] := by subst hu9; rfl
  rw [hw9] at hP hD
  exact W.vret hx hb hr (fun t ht hW => ⟨⟨u9, rfl, trivial, by rw [ht]; exact hP, by rw [hAe]; exact hD⟩, by rw [hAe]; exact hS.F ht⟩) hS.2.2 dX7_init_68
set_option maxHeartbeats 4000000 in
set_option maxRecDepth 100000 in
theorem c_X4_init (l : Launch) (D : va_G) (cI cS : ClassId) (sz : Nat) (h0 : Nat)  : Met l yX4_init wsX4_init ({ frames := 1, cells := 4, slots := 40, locals := 30 }) (ftRW D cI cS [.ref h0] [(h0, .inr (4, [.int 0, .int 0, .int 0, .int 0, .null, .null, .null, .null]))] sz) (ftXv D [(h0, .inr (4, [.int 0, .int 0, .int 0, .int 0, .null, .null, .null, .null]))] sz (fun (u : Nat → Nat) => True) (fun (u : Nat → Nat) => [(h0, .inr (4, [.int 200, .int 10, .int 12000, .int 0, .ref (u 0), .ref (u 1), .ref (u 2), .ref (u 3)])), (u 0, .inl (cI, 10, .inl (fun _ => 0))), (u 1, .inl (cI, 10, .inl (fun _ => 0))), (u 2, .inl (cI, 10, .inl (fun _ => 0))), (u 3, .inl (cI, 10, .inl (fun _ => 0)))])) 4 40 (va_A [(h0, .inr (4, [.int 0, .int 0, .int 0, .int 0, .null, .null, .null, .null]))] sz) := by
  refine Met.ofW (cc := cX4_init) (maxL := 1) (ret := none) (by decide) rfl ?_
  intro p e s m args below meth c s₁ B hml hv
  obtain ⟨rfl, hsz, hP, hKK, hD0⟩ := hv
  have hK := hKK.1
  have hx := B.exec
  have hb := B.bytes
  have hr := B.returns
  have hts := atoms_spec (ws := wsX4_init) B.pre
  have hown : s.vm.findClass RX4 = some m.cls := findClass_of_methodNamed B.named
  have hlocks := B.notSynchronized
  subst hsz
  have hD := hD0.self (sz := s.heap.size)
  generalize hAe : va_A [(h0, .inr (4, [.int 0, .int 0, .int 0, .int 0, .null, .null, .null, .null]))] s.heap.size = A at hD ⊢
  have hA : ∀ q : Nat, s.heap.size ≤ q → A q := fun q h => by rw [← hAe]; exact Or.inr h
  have hS : va_S A s.heap s.heap [] := va_S.rf
  have hD : va_D A [(h0, .inr (4, [.int 0, .int 0, .int 0, .int 0, .null, .null, .null, .null]))] := hD
  have hP : va_P D vwCl [(h0, .inr (4, [.int 0, .int 0, .int 0, .int 0, .null, .null, .null, .null]))] s.heap := hP
  have hl := lv_entry ([.ref h0]) (n := 1) (Nat.le_of_ble_eq_true rfl)
  rw [lg_entry_eq]
  generalize (lg_sl ([.ref h0]) ++ List.replicate (1 - (lg_sl ([.ref h0])).length) Slot.unset).toArray = ls at hl ⊢
  have hl : lv_has ls 1 [(0, .ref h0)] := hl
  have hin : meth.name = "<init>" := (name_of_methodNamed B.named B.method).1
  refine lv_aload_n hx hb dX4_init_0 rfl (lv_at hl 0 rfl) ?_
  refine W.objInit hx hb hown (hts (.methodLink RX4 3 objectInit) (by decide +kernel)) (hts (.instanceMethod objectInit) (by decide +kernel)) (hts (.code objectInit ⟨#[0xb1]⟩ 1 none) (List.mem_of_getElem? (i := 3) rfl)) rfl (by rw [hml]; exact hl.1) rfl dX4_init_1 (Nat.le_of_ble_eq_true rfl) (Nat.le_of_ble_eq_true rfl) ?_
  refine W.eq (g2 := F0 m 4 ls []) rfl ?_
  refine lv_aload_n hx hb dX4_init_4 rfl (lv_at hl 0 rfl) ?_
  refine lv_bipush (v := 10) hx hb dX4_init_5 (by decide) ?_
  refine ft_newI hx hb (hts (.arrayClass .int) (by decide +kernel)) hKK hP hD hS hA (N := 10) (by decide) (by decide) (Nat.le_of_ble_eq_true rfl) (Nat.le_of_ble_eq_true rfl) (Nat.le_of_ble_eq_true rfl) dX4_init_7 (fun q7 H hP hD hS => ?_)
  refine W.widen (k := 1) (n := 10) (Nat.le_of_ble_eq_true rfl) (Nat.le_of_ble_eq_true rfl) ?_
  have hP : va_P D vwCl [(h0, .inr (4, [.int 0, .int 0, .int 0, .int 0, .null, .null, .null, .null])), (q7, .inl (cI, 10, .inl (fun _ => 0)))] H := hP
  have hD : va_D A [(h0, .inr (4, [.int 0, .int 0, .int 0, .int 0, .null, .null, .null, .null])), (q7, .inl (cI, 10, .inl (fun _ => 0)))] := hD
  refine va_putF (D := D) (ci := 4) (v := .ref q7) (ty := .array .int) (C := RX4) (T := TX4) (N := 8) hx hb hts (by decide +kernel) tyX4 tyX4_ok nmX4 hown hK hP hD hS 0 rfl rfl 4 (by decide) (hts (.fieldLink RX4 9 "FiberTrace$Link" "kinds" "[I") (by decide +kernel)) (fun _ h9 => h9) rfl hin rfl (by decide +kernel) rfl rfl (Nat.le_of_ble_eq_true rfl) dX4_init_9 (fun H locs hP hD hS => ?_)
  have hP : va_P D vwCl [(h0, .inr (4, [.int 0, .int 0, .int 0, .int 0, .ref q7, .null, .null, .null])), (q7, .inl (cI, 10, .inl (fun _ => 0)))] H := hP
  have hD : va_D A [(h0, .inr (4, [.int 0, .int 0, .int 0, .int 0, .ref q7, .null, .null, .null])), (q7, .inl (cI, 10, .inl (fun _ => 0)))] := hD
  refine lv_aload_n hx hb dX4_init_12 rfl (lv_at hl 0 rfl) ?_
  refine lv_bipush (v := 10) hx hb dX4_init_13 (by decide) ?_
  refine ft_newI hx hb (hts (.arrayClass .int) (by decide +kernel)) hKK hP hD hS hA (N := 10) (by decide) (by decide) (Nat.le_of_ble_eq_true rfl) (Nat.le_of_ble_eq_true rfl) (Nat.le_of_ble_eq_true rfl) dX4_init_15 (fun q15 H hP hD hS => ?_)
  refine W.widen (k := 2) (n := 20) (Nat.le_of_ble_eq_true rfl) (Nat.le_of_ble_eq_true rfl) ?_
  have hP : va_P D vwCl [(h0, .inr (4, [.int 0, .int 0, .int 0, .int 0, .ref q7, .null, .null, .null])), (q7, .inl (cI, 10, .inl (fun _ => 0))), (q15, .inl (cI, 10, .inl (fun _ => 0)))] H := hP
  have hD : va_D A [(h0, .inr (4, [.int 0, .int 0, .int 0, .int 0, .ref q7, .null, .null, .null])), (q7, .inl (cI, 10, .inl (fun _ => 0))), (q15, .inl (cI, 10, .inl (fun _ => 0)))] := hD
  refine va_putF (D := D) (ci := 4) (v := .ref q15) (ty := .array .int) (C := RX4) (T := TX4) (N := 8) hx hb hts (by decide +kernel) tyX4 tyX4_ok nmX4 hown hK hP hD hS 0 rfl rfl 5 (by decide) (hts (.fieldLink RX4 15 "FiberTrace$Link" "places" "[I") (by decide +kernel)) (fun _ h9 => h9) rfl hin rfl (by decide +kernel) rfl rfl (Nat.le_of_ble_eq_true rfl) dX4_init_17 (fun H locs hP hD hS => ?_)
  have hP : va_P D vwCl [(h0, .inr (4, [.int 0, .int 0, .int 0, .int 0, .ref q7, .ref q15, .null, .null])), (q7, .inl (cI, 10, .inl (fun _ => 0))), (q15, .inl (cI, 10, .inl (fun _ => 0)))] H := hP
  have hD : va_D A [(h0, .inr (4, [.int 0, .int 0, .int 0, .int 0, .ref q7, .ref q15, .null, .null])), (q7, .inl (cI, 10, .inl (fun _ => 0))), (q15, .inl (cI, 10, .inl (fun _ => 0)))] := hD
  refine lv_aload_n hx hb dX4_init_20 rfl (lv_at hl 0 rfl) ?_
  refine lv_bipush (v := 10) hx hb dX4_init_21 (by decide) ?_
  refine ft_newI hx hb (hts (.arrayClass .int) (by decide +kernel)) hKK hP hD hS hA (N := 10) (by decide) (by decide) (Nat.le_of_ble_eq_true rfl) (Nat.le_of_ble_eq_true rfl) (Nat.le_of_ble_eq_true rfl) dX4_init_23 (fun q23 H hP hD hS => ?_)
  refine W.widen (k := 3) (n := 30) (Nat.le_of_ble_eq_true rfl) (Nat.le_of_ble_eq_true rfl) ?_
  have hP : va_P D vwCl [(h0, .inr (4, [.int 0, .int 0, .int 0, .int 0, .ref q7, .ref q15, .null, .null])), (q7, .inl (cI, 10, .inl (fun _ => 0))), (q15, .inl (cI, 10, .inl (fun _ => 0))), (q23, .inl (cI, 10, .inl (fun _ => 0)))] H := hP
  have hD : va_D A [(h0, .inr (4, [.int 0, .int 0, .int 0, .int 0, .ref q7, .ref q15, .null, .null])), (q7, .inl (cI, 10, .inl (fun _ => 0))), (q15, .inl (cI, 10, .inl (fun _ => 0))), (q23, .inl (cI, 10, .inl (fun _ => 0)))] := hD
  refine va_putF (D := D) (ci := 4) (v := .ref q23) (ty := .array .int) (C := RX4) (T := TX4) (N := 8) hx hb hts (by decide +kernel) tyX4 tyX4_ok nmX4 hown hK hP hD hS 0 rfl rfl 6 (by decide) (hts (.fieldLink RX4 18 "FiberTrace$Link" "losses" "[I") (by decide +kernel)) (fun _ h9 => h9) rfl hin rfl (by decide +kernel) rfl rfl (Nat.le_of_ble_eq_true rfl) dX4_init_25 (fun H locs hP hD hS => ?_)
  have hP : va_P D vwCl [(h0, .inr (4, [.int 0, .int 0, .int 0, .int 0, .ref q7, .ref q15, .ref q23, .null])), (q7, .inl (cI, 10, .inl (fun _ => 0))), (q15, .inl (cI, 10, .inl (fun _ => 0))), (q23, .inl (cI, 10, .inl (fun _ => 0)))] H := hP
  have hD : va_D A [(h0, .inr (4, [.int 0, .int 0, .int 0, .int 0, .ref q7, .ref q15, .ref q23, .null])), (q7, .inl (cI, 10, .inl (fun _ => 0))), (q15, .inl (cI, 10, .inl (fun _ => 0))), (q23, .inl (cI, 10, .inl (fun _ => 0)))] := hD
  refine lv_aload_n hx hb dX4_init_28 rfl (lv_at hl 0 rfl) ?_
  refine lv_bipush (v := 10) hx hb dX4_init_29 (by decide) ?_
  refine ft_newI hx hb (hts (.arrayClass .int) (by decide +kernel)) hKK hP hD hS hA (N := 10) (by decide) (by decide) (Nat.le_of_ble_eq_true rfl) (Nat.le_of_ble_eq_true rfl) (Nat.le_of_ble_eq_true rfl) dX4_init_31 (fun q31 H hP hD hS => ?_)
  refine W.widen (k := 4) (n := 40) (Nat.le_of_ble_eq_true rfl) (Nat.le_of_ble_eq_true rfl) ?_
  have hP : va_P D vwCl [(h0, .inr (4, [.int 0, .int 0, .int 0, .int 0, .ref q7, .ref q15, .ref q23, .null])), (q7, .inl (cI, 10, .inl (fun _ => 0))), (q15, .inl (cI, 10, .inl (fun _ => 0))), (q23, .inl (cI, 10, .inl (fun _ => 0))), (q31, .inl (cI, 10, .inl (fun _ => 0)))] H := hP
  have hD : va_D A [(h0, .inr (4, [.int 0, .int 0, .int 0, .int 0, .ref q7, .ref q15, .ref q23, .null])), (q7, .inl (cI, 10, .inl (fun _ => 0))), (q15, .inl (cI, 10, .inl (fun _ => 0))), (q23, .inl (cI, 10, .inl (fun _ => 0))), (q31, .inl (cI, 10, .inl (fun _ => 0)))] := hD
  refine va_putF (D := D) (ci := 4) (v := .ref q31) (ty := .array .int) (C := RX4) (T := TX4) (N := 8) hx hb hts (by decide +kernel) tyX4 tyX4_ok nmX4 hown hK hP hD hS 0 rfl rfl 7 (by decide) (hts (.fieldLink RX4 21 "FiberTrace$Link" "reflections" "[I") (by decide +kernel)) (fun _ h9 => h9) rfl hin rfl (by decide +kernel) rfl rfl (Nat.le_of_ble_eq_true rfl) dX4_init_33 (fun H locs hP hD hS => ?_)
  have hP : va_P D vwCl [(h0, .inr (4, [.int 0, .int 0, .int 0, .int 0, .ref q7, .ref q15, .ref q23, .ref q31])), (q7, .inl (cI, 10, .inl (fun _ => 0))), (q15, .inl (cI, 10, .inl (fun _ => 0))), (q23, .inl (cI, 10, .inl (fun _ => 0))), (q31, .inl (cI, 10, .inl (fun _ => 0)))] H := hP
  have hD : va_D A [(h0, .inr (4, [.int 0, .int 0, .int 0, .int 0, .ref q7, .ref q15, .ref q23, .ref q31])), (q7, .inl (cI, 10, .inl (fun _ => 0))), (q15, .inl (cI, 10, .inl (fun _ => 0))), (q23, .inl (cI, 10, .inl (fun _ => 0))), (q31, .inl (cI, 10, .inl (fun _ => 0)))] := hD
  refine lv_aload_n hx hb dX4_init_36 rfl (lv_at hl 0 rfl) ?_
  refine ft_cv (wc := [(h0, .inr (4, [.int 0, .int 0, .int 0, .int 0, .ref q7, .ref q15, .ref q23, .ref q31]))]) (wr := [(q7, .inl (cI, 10, .inl (fun _ => 0))), (q15, .inl (cI, 10, .inl (fun _ => 0))), (q23, .inl (cI, 10, .inl (fun _ => 0))), (q31, .inl (cI, 10, .inl (fun _ => 0)))]) (w1 := [(h0, .inr (4, [.int 200, .int 10, .int 12000, .int 0, .ref q7, .ref q15, .ref q23, .ref q31]))]) (ws1 := [(h0, .inr (4, [.int 200, .int 10, .int 12000, .int 0, .ref q7, .ref q15, .ref q23, .ref q31])), (q7, .inl (cI, 10, .inl (fun _ => 0))), (q15, .inl (cI, 10, .inl (fun _ => 0))), (q23, .inl (cI, 10, .inl (fun _ => 0))), (q31, .inl (cI, 10, .inl (fun _ => 0)))]) (va_runV (C := RX4) (As := []) (rest := []) ⟨hx, hb, hml, hown, hts⟩ (c_X4_reset l D cI cS H.size h0 0 0 0 0 q7 q15 q23 q31) (cwV 0 hts gX4_init_X4_reset rfl rfl rfl (by decide +kernel) ⟨Nat.le_of_ble_eq_true rfl, Nat.le_of_ble_eq_true rfl⟩) (ft_preRWV (ci := 4) (q0 := 0) hP hD hKK [0] rfl rfl rfl rfl rfl) rfl rfl hl.1 rfl (lv_room (Nat.le_of_ble_eq_true rfl)) dX4_init_37 ⟨Nat.le_of_ble_eq_true rfl, Nat.le_of_ble_eq_true rfl⟩) hP hD hS hA [0] [1, 2, 3, 4] [4, 0, 1, 2, 3] rfl rfl (by decide) (by decide) (by decide) rfl rfl (fun H locs hP hD hS => ?_)
  have hP : va_P D vwCl [(h0, .inr (4, [.int 200, .int 10, .int 12000, .int 0, .ref q7, .ref q15, .ref q23, .ref q31])), (q7, .inl (cI, 10, .inl (fun _ => 0))), (q15, .inl (cI, 10, .inl (fun _ => 0))), (q23, .inl (cI, 10, .inl (fun _ => 0))), (q31, .inl (cI, 10, .inl (fun _ => 0)))] H := hP
  have hD : va_D A [(h0, .inr (4, [.int 200, .int 10, .int 12000, .int 0, .ref q7, .ref q15, .ref q23, .ref q31])), (q7, .inl (cI, 10, .inl (fun _ => 0))), (q15, .inl (cI, 10, .inl (fun _ => 0))), (q23, .inl (cI, 10, .inl (fun _ => 0))), (q31, .inl (cI, 10, .inl (fun _ => 0)))] := hD
  obtain ⟨u9, hu9⟩ : ∃ u9 : Nat → Nat, u9 = fun k => ([q7, q15, q23, q31] : List Nat).getD k 0 := ⟨_, rfl⟩
  have hw9 : ([(h0, .inr (4, [.int 200, .int 10, .int 12000, .int 0, .ref q7, .ref q15, .ref q23, .ref q31])), (q7, .inl (cI, 10, .inl (fun _ => 0))), (q15, .inl (cI, 10, .inl (fun _ => 0))), (q23, .inl (cI, 10, .inl (fun _ => 0))), (q31, .inl (cI, 10, .inl (fun _ => 0)))] : va_W) = [(h0, .inr (4, [.int 200, .int 10, .int 12000, .int 0, .ref (u9 0), .ref (u9 1), .ref (u9 2), .ref (u9 3)])), (u9 0, .inl (cI, 10, .inl (fun _ => 0))), (u9 1, .inl (cI, 10, .inl (fun _ => 0))), (u9 2, .inl (cI, 10, .inl (fun _ => 0))), (u9 3, .inl (cI, 10, .inl (fun _ => 0)))] := by subst hu9; rfl
  rw [hw9] at hP hD
  exact W.vret hx hb hr (fun t ht hW => ⟨⟨u9, rfl, trivial, by rw [ht]; exact hP, by rw [hAe]; exact hD⟩, by rw [hAe]; exact hS.F ht⟩) hS.2.2 dX4_init_40
set_option maxHeartbeats 4000000 in
set_option maxRecDepth 100000 in
theorem c_X8_init (l : Launch) (D : va_G) (cI cS : ClassId) (sz : Nat) (sK sV : Nat → Nat) (h0 : Nat)  : Met l yX8_init wsX8_init ({ frames := 2, cells := 6, slots := 59, locals := 50 }) (ftRWSA D cI cS sK sV [.ref h0] [(h0, .inr (8, [.null, .null, .int 0]))] sz) (ftXv D [(h0, .inr (8, [.null, .null, .int 0]))] sz (fun (u : Nat → Nat) => True) (fun (u : Nat → Nat) => [(h0, .inr (8, [.ref (u 0), .ref (u 5), .int 0])), (u 0, .inr (4, [.int 200, .int 10, .int 12000, .int 0, .ref (u 1), .ref (u 2), .ref (u 3), .ref (u 4)])), (u 1, .inl (cI, 10, .inl (fun _ => 0))), (u 2, .inl (cI, 10, .inl (fun _ => 0))), (u 3, .inl (cI, 10, .inl (fun _ => 0))), (u 4, .inl (cI, 10, .inl (fun _ => 0))), (u 5, .inl (cI, 11, .inl (va_cpy (ftTb 2) (fun _ => 0) 0 0 11)))])) 6 59 (va_A [(h0, .inr (8, [.null, .null, .int 0]))] sz) := by
  refine Met.ofW (cc := cX8_init) (maxL := 1) (ret := none) (by decide) rfl ?_
  intro p e s m args below meth c s₁ B hml hv
  obtain ⟨rfl, hsz, hP, hKK, hD0, hSt, hAO⟩ := hv
  have hK := hKK.1
  have hx := B.exec
  have hb := B.bytes
  have hr := B.returns
  have hts := atoms_spec (ws := wsX8_init) B.pre
  have hown : s.vm.findClass RX8 = some m.cls := findClass_of_methodNamed B.named
  have hlocks := B.notSynchronized
  subst hsz
  have hD := hD0.self (sz := s.heap.size)
  generalize hAe : va_A [(h0, .inr (8, [.null, .null, .int 0]))] s.heap.size = A at hD hSt ⊢
  have hA : ∀ q : Nat, s.heap.size ≤ q → A q := fun q h => by rw [← hAe]; exact Or.inr h
  have hS : va_S A s.heap s.heap [] := va_S.rf
  have hD : va_D A [(h0, .inr (8, [.null, .null, .int 0]))] := hD
  have hP : va_P D vwCl [(h0, .inr (8, [.null, .null, .int 0]))] s.heap := hP
  have hl := lv_entry ([.ref h0]) (n := 1) (Nat.le_of_ble_eq_true rfl)
  rw [lg_entry_eq]
  generalize (lg_sl ([.ref h0]) ++ List.replicate (1 - (lg_sl ([.ref h0])).length) Slot.unset).toArray = ls at hl ⊢
  have hl : lv_has ls 1 [(0, .ref h0)] := hl
  have hin : meth.name = "<init>" := (name_of_methodNamed B.named B.method).1
  refine lv_aload_n hx hb dX8_init_0 rfl (lv_at hl 0 rfl) ?_
  refine W.objInit hx hb hown (hts (.methodLink RX8 3 objectInit) (by decide +kernel)) (hts (.instanceMethod objectInit) (by decide +kernel)) (hts (.code objectInit ⟨#[0xb1]⟩ 1 none) (List.mem_of_getElem? (i := 3) rfl)) rfl (by rw [hml]; exact hl.1) rfl dX8_init_1 (Nat.le_of_ble_eq_true rfl) (Nat.le_of_ble_eq_true rfl) ?_
  refine W.eq (g2 := F0 m 4 ls []) rfl ?_
  refine lv_aload_n hx hb dX8_init_4 rfl (lv_at hl 0 rfl) ?_
  refine va_new (ci := 4) (fs := [.int 0, .int 0, .int 0, .int 0, .null, .null, .null, .null]) (C := RX4) (T := TX4) (N := 8) hx hb hts (by decide +kernel) tyX4 tyX4_ok hown (hts (.classLink RX8 9 RX4) (by decide +kernel)) (hts (.instantiable RX4 8) (by decide +kernel)) (hts (.initialized RX4) (by decide +kernel)) hK hP hD hS hA rfl nwX4 (Nat.le_of_ble_eq_true rfl) (Nat.le_of_ble_eq_true rfl) dX8_init_5 (fun q5 H hP hD hS => ?_)
  refine W.widen (k := 1) (n := 8) (Nat.le_of_ble_eq_true rfl) (Nat.le_of_ble_eq_true rfl) ?_
  refine lv_dup hx hb dX8_init_8 rfl ?_
  refine ft_newc (ws := [(h0, .inr (8, [.null, .null, .int 0]))]) (x := (q5, .inr (4, [.int 0, .int 0, .int 0, .int 0, .null, .null, .null, .null]))) (S := Nat → Nat) (w1 := fun (v9 : Nat → Nat) => [(q5, .inr (4, [.int 200, .int 10, .int 12000, .int 0, .ref (v9 0), .ref (v9 1), .ref (v9 2), .ref (v9 3)])), (v9 0, .inl (cI, 10, .inl (fun _ => 0))), (v9 1, .inl (cI, 10, .inl (fun _ => 0))), (v9 2, .inl (cI, 10, .inl (fun _ => 0))), (v9 3, .inl (cI, 10, .inl (fun _ => 0)))]) (va_runI (As := []) (rest := [.ref q5, .ref h0]) ⟨hx, hb, hml, hown, hts⟩ (c_X4_init l D cI cS H.size q5) (cwI 0 hts gX8_init_X4_init rfl rfl rfl (hts (.initialized RX4) (by decide +kernel)) (hts (.methodLink RX8 11 yX4_init) (by decide +kernel)) (hts (.instanceMethod yX4_init) (by decide +kernel)) rfl (by decide +kernel) ⟨Nat.le_of_ble_eq_true rfl, Nat.le_of_ble_eq_true rfl⟩) (ft_preRW hP hD hKK [1] rfl rfl rfl) rfl rfl hl.1 rfl (lv_room (Nat.le_of_ble_eq_true rfl)) dX8_init_9 ⟨Nat.le_of_ble_eq_true rfl, Nat.le_of_ble_eq_true rfl⟩) hP hD hS hA (fun v9 _ H locs hP hD hS => ?_)
  refine W.widen (k := 5) (n := 48) (Nat.le_of_ble_eq_true rfl) (Nat.le_of_ble_eq_true rfl) ?_
  have hP : va_P D vwCl [(h0, .inr (8, [.null, .null, .int 0])), (q5, .inr (4, [.int 200, .int 10, .int 12000, .int 0, .ref (v9 0), .ref (v9 1), .ref (v9 2), .ref (v9 3)])), (v9 0, .inl (cI, 10, .inl (fun _ => 0))), (v9 1, .inl (cI, 10, .inl (fun _ => 0))), (v9 2, .inl (cI, 10, .inl (fun _ => 0))), (v9 3, .inl (cI, 10, .inl (fun _ => 0)))] H := hP
  have hD : va_D A [(h0, .inr (8, [.null, .null, .int 0])), (q5, .inr (4, [.int 200, .int 10, .int 12000, .int 0, .ref (v9 0), .ref (v9 1), .ref (v9 2), .ref (v9 3)])), (v9 0, .inl (cI, 10, .inl (fun _ => 0))), (v9 1, .inl (cI, 10, .inl (fun _ => 0))), (v9 2, .inl (cI, 10, .inl (fun _ => 0))), (v9 3, .inl (cI, 10, .inl (fun _ => 0)))] := hD
  refine va_putF (D := D) (ci := 8) (v := .ref q5) (ty := .object "FiberTrace$Link") (C := RX8) (T := TX8) (N := 3) hx hb hts (by decide +kernel) tyX8 tyX8_ok nmX8 hown hK hP hD hS 0 rfl rfl 0 (by decide) (hts (.fieldLink RX8 12 "FiberTrace$State" "link" "LFiberTrace$Link;") (by decide +kernel)) (fun _ h9 => h9) rfl hin rfl (by decide +kernel) rfl rfl (Nat.le_of_ble_eq_true rfl) dX8_init_12 (fun H locs hP hD hS => ?_)
  have hP : va_P D vwCl [(h0, .inr (8, [.ref q5, .null, .int 0])), (q5, .inr (4, [.int 200, .int 10, .int 12000, .int 0, .ref (v9 0), .ref (v9 1), .ref (v9 2), .ref (v9 3)])), (v9 0, .inl (cI, 10, .inl (fun _ => 0))), (v9 1, .inl (cI, 10, .inl (fun _ => 0))), (v9 2, .inl (cI, 10, .inl (fun _ => 0))), (v9 3, .inl (cI, 10, .inl (fun _ => 0)))] H := hP
  have hD : va_D A [(h0, .inr (8, [.ref q5, .null, .int 0])), (q5, .inr (4, [.int 200, .int 10, .int 12000, .int 0, .ref (v9 0), .ref (v9 1), .ref (v9 2), .ref (v9 3)])), (v9 0, .inl (cI, 10, .inl (fun _ => 0))), (v9 1, .inl (cI, 10, .inl (fun _ => 0))), (v9 2, .inl (cI, 10, .inl (fun _ => 0))), (v9 3, .inl (cI, 10, .inl (fun _ => 0)))] := hD
  refine lv_aload_n hx hb dX8_init_15 rfl (lv_at hl 0 rfl) ?_
  refine lv_bipush (v := 11) hx hb dX8_init_16 (by decide) ?_
  refine ft_newI hx hb (hts (.arrayClass .int) (by decide +kernel)) hKK hP hD hS hA (N := 11) (by decide) (by decide) (Nat.le_of_ble_eq_true rfl) (Nat.le_of_ble_eq_true rfl) (Nat.le_of_ble_eq_true rfl) dX8_init_18 (fun q18 H hP hD hS => ?_)
  refine W.widen (k := 6) (n := 59) (Nat.le_of_ble_eq_true rfl) (Nat.le_of_ble_eq_true rfl) ?_
  have hP : va_P D vwCl [(h0, .inr (8, [.ref q5, .null, .int 0])), (q5, .inr (4, [.int 200, .int 10, .int 12000, .int 0, .ref (v9 0), .ref (v9 1), .ref (v9 2), .ref (v9 3)])), (v9 0, .inl (cI, 10, .inl (fun _ => 0))), (v9 1, .inl (cI, 10, .inl (fun _ => 0))), (v9 2, .inl (cI, 10, .inl (fun _ => 0))), (v9 3, .inl (cI, 10, .inl (fun _ => 0))), (q18, .inl (cI, 11, .inl (fun _ => 0)))] H := hP
  have hD : va_D A [(h0, .inr (8, [.ref q5, .null, .int 0])), (q5, .inr (4, [.int 200, .int 10, .int 12000, .int 0, .ref (v9 0), .ref (v9 1), .ref (v9 2), .ref (v9 3)])), (v9 0, .inl (cI, 10, .inl (fun _ => 0))), (v9 1, .inl (cI, 10, .inl (fun _ => 0))), (v9 2, .inl (cI, 10, .inl (fun _ => 0))), (v9 3, .inl (cI, 10, .inl (fun _ => 0))), (q18, .inl (cI, 11, .inl (fun _ => 0)))] := hD
  refine va_putF (D := D) (ci := 8) (v := .ref q18) (ty := .array .int) (C := RX8) (T := TX8) (N := 3) hx hb hts (by decide +kernel) tyX8 tyX8_ok nmX8 hown hK hP hD hS 0 rfl rfl 1 (by decide) (hts (.fieldLink RX8 18 "FiberTrace$State" "settings" "[I") (by decide +kernel)) (fun _ h9 => h9) rfl hin rfl (by decide +kernel) rfl rfl (Nat.le_of_ble_eq_true rfl) dX8_init_20 (fun H locs hP hD hS => ?_)
  have hP : va_P D vwCl [(h0, .inr (8, [.ref q5, .ref q18, .int 0])), (q5, .inr (4, [.int 200, .int 10, .int 12000, .int 0, .ref (v9 0), .ref (v9 1), .ref (v9 2), .ref (v9 3)])), (v9 0, .inl (cI, 10, .inl (fun _ => 0))), (v9 1, .inl (cI, 10, .inl (fun _ => 0))), (v9 2, .inl (cI, 10, .inl (fun _ => 0))), (v9 3, .inl (cI, 10, .inl (fun _ => 0))), (q18, .inl (cI, 11, .inl (fun _ => 0)))] H := hP
  have hD : va_D A [(h0, .inr (8, [.ref q5, .ref q18, .int 0])), (q5, .inr (4, [.int 200, .int 10, .int 12000, .int 0, .ref (v9 0), .ref (v9 1), .ref (v9 2), .ref (v9 3)])), (v9 0, .inl (cI, 10, .inl (fun _ => 0))), (v9 1, .inl (cI, 10, .inl (fun _ => 0))), (v9 2, .inl (cI, 10, .inl (fun _ => 0))), (v9 3, .inl (cI, 10, .inl (fun _ => 0))), (q18, .inl (cI, 11, .inl (fun _ => 0)))] := hD
  refine va_getsN hx hb (hSt.2.2.2.2.2 2 (by omega)) hS hown (va_Nw.use rfl hAO.2) (fun _ h9 => h9) dX8_init_23 ?_
  refine lv_iconst (v := 0) hx hb dX8_init_26 (by decide) ?_
  refine lv_aload_n hx hb dX8_init_27 rfl (lv_at hl 0 rfl) ?_
  refine va_get (D := D) (ci := 8) (v := .ref q18) (C := RX8) (T := TX8) (N := 3) hx hb hts (by decide +kernel) hown hK hP 0 rfl rfl 1 (by decide) (hts (.fieldLink RX8 18 "FiberTrace$State" "settings" "[I") (by decide +kernel)) (fun _ h9 => h9) rfl dX8_init_28 ?_
  refine lv_iconst (v := 0) hx hb dX8_init_31 (by decide) ?_
  refine lv_bipush (v := 11) hx hb dX8_init_32 (by decide) ?_
  refine ft_cpT hx hb (hml.trans hl.1.symm) hown (hts (.methodLink RX8 25 arraycopyName) (by decide +kernel)) (hts (.native arraycopyName) (by decide +kernel)) (hts (.static arraycopyName) (by decide +kernel)) (hts (.initialized "java/lang/System") (by decide +kernel)) hK hP hD hS (hSt.2.2.2.2.1 2 (by omega)) 6 0 rfl rfl (by decide) (by decide) (by decide) (by decide) (by decide) (Nat.le_of_ble_eq_true rfl) (Nat.le_of_ble_eq_true rfl) dX8_init_34 (fun H locs hP hD hS => ?_)
  have hP : va_P D vwCl [(h0, .inr (8, [.ref q5, .ref q18, .int 0])), (q5, .inr (4, [.int 200, .int 10, .int 12000, .int 0, .ref (v9 0), .ref (v9 1), .ref (v9 2), .ref (v9 3)])), (v9 0, .inl (cI, 10, .inl (fun _ => 0))), (v9 1, .inl (cI, 10, .inl (fun _ => 0))), (v9 2, .inl (cI, 10, .inl (fun _ => 0))), (v9 3, .inl (cI, 10, .inl (fun _ => 0))), (q18, .inl (cI, 11, .inl (va_cpy (ftTb 2) (fun _ => 0) 0 0 11)))] H := hP
  have hD : va_D A [(h0, .inr (8, [.ref q5, .ref q18, .int 0])), (q5, .inr (4, [.int 200, .int 10, .int 12000, .int 0, .ref (v9 0), .ref (v9 1), .ref (v9 2), .ref (v9 3)])), (v9 0, .inl (cI, 10, .inl (fun _ => 0))), (v9 1, .inl (cI, 10, .inl (fun _ => 0))), (v9 2, .inl (cI, 10, .inl (fun _ => 0))), (v9 3, .inl (cI, 10, .inl (fun _ => 0))), (q18, .inl (cI, 11, .inl (va_cpy (ftTb 2) (fun _ => 0) 0 0 11)))] := hD
  refine lv_aload_n hx hb dX8_init_37 rfl (lv_at hl 0 rfl) ?_
  refine lv_iconst (v := 0) hx hb dX8_init_38 (by decide) ?_
  refine va_put (D := D) (ci := 8) (v := .int 0) (ty := .int) (C := RX8) (T := TX8) (N := 3) hx hb hts (by decide +kernel) tyX8 tyX8_ok nmX8 hown hK hP hD hS 0 rfl rfl 2 (by decide) (hts (.fieldLink RX8 31 "FiberTrace$State" "keeps" "I") (by decide +kernel)) (fun _ h9 => h9) rfl (by decide +kernel) rfl rfl (Nat.le_of_ble_eq_true rfl) dX8_init_39 (fun H locs hP hD hS => ?_)
  have hP : va_P D vwCl [(h0, .inr (8, [.ref q5, .ref q18, .int 0])), (q5, .inr (4, [.int 200, .int 10, .int 12000, .int 0, .ref (v9 0), .ref (v9 1), .ref (v9 2), .ref (v9 3)])), (v9 0, .inl (cI, 10, .inl (fun _ => 0))), (v9 1, .inl (cI, 10, .inl (fun _ => 0))), (v9 2, .inl (cI, 10, .inl (fun _ => 0))), (v9 3, .inl (cI, 10, .inl (fun _ => 0))), (q18, .inl (cI, 11, .inl (va_cpy (ftTb 2) (fun _ => 0) 0 0 11)))] H := hP
  have hD : va_D A [(h0, .inr (8, [.ref q5, .ref q18, .int 0])), (q5, .inr (4, [.int 200, .int 10, .int 12000, .int 0, .ref (v9 0), .ref (v9 1), .ref (v9 2), .ref (v9 3)])), (v9 0, .inl (cI, 10, .inl (fun _ => 0))), (v9 1, .inl (cI, 10, .inl (fun _ => 0))), (v9 2, .inl (cI, 10, .inl (fun _ => 0))), (v9 3, .inl (cI, 10, .inl (fun _ => 0))), (q18, .inl (cI, 11, .inl (va_cpy (ftTb 2) (fun _ => 0) 0 0 11)))] := hD
  obtain ⟨u9, hu9⟩ : ∃ u9 : Nat → Nat, u9 = fun k => ([q5, v9 0, v9 1, v9 2, v9 3, q18] : List Nat).getD k 0 := ⟨_, rfl⟩
  have hw9 : ([(h0, .inr (8, [.ref q5, .ref q18, .int 0])), (q5, .inr (4, [.int 200, .int 10, .int 12000, .int 0, .ref (v9 0), .ref (v9 1), .ref (v9 2), .ref (v9 3)])), (v9 0, .inl (cI, 10, .inl (fun _ => 0))), (v9 1, .inl (cI, 10, .inl (fun _ => 0))), (v9 2, .inl (cI, 10, .inl (fun _ => 0))), (v9 3, .inl (cI, 10, .inl (fun _ => 0))), (q18, .inl (cI, 11, .inl (va_cpy (ftTb 2) (fun _ => 0) 0 0 11)))] : va_W) = [(h0, .inr (8, [.ref (u9 0), .ref (u9 5), .int 0])), (u9 0, .inr (4, [.int 200, .int 10, .int 12000, .int 0, .ref (u9 1), .ref (u9 2), .ref (u9 3), .ref (u9 4)])), (u9 1, .inl (cI, 10, .inl (fun _ => 0))), (u9 2, .inl (cI, 10, .inl (fun _ => 0))), (u9 3, .inl (cI, 10, .inl (fun _ => 0))), (u9 4, .inl (cI, 10, .inl (fun _ => 0))), (u9 5, .inl (cI, 11, .inl (va_cpy (ftTb 2) (fun _ => 0) 0 0 11)))] := by subst hu9; rfl
  rw [hw9] at hP hD
  exact W.vret hx hb hr (fun t ht hW => ⟨⟨u9, rfl, trivial, by rw [ht]; exact hP, by rw [hAe]; exact hD⟩, by rw [hAe]; exact hS.F ht⟩) hS.2.2 dX8_init_42
