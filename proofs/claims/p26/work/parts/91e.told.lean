set_option maxHeartbeats 4000000 in
set_option maxRecDepth 100000 in
theorem c_L_isTold (l : Launch) (D : va_G) (cI cS : ClassId) (sz : Nat) (sK sV : Nat → Nat) (o0 p0 t0 : Nat) (Ao Ap : Nat → Nat → Nat) (co cp : ftCdT) (tf : Nat → Int32) (k : Nat) (w z : Nat → Int32) (hm : Nat) (to : Nat → Int32) (no : Nat) (wp : Nat → Int32) (tp : Nat → Int32) (np : Nat) (C : Nat) (hk : k < 900) (hO : lxO k co w z hm to no) (hQ : lxQ cp wp tp np) (hC : C < 2 ^ 31) (hF : ∀ j, j < 11 → w (44 + j) = ftW0 (44 + j)) (hFp : ∀ j, j < 11 → wp (44 + j) = ftW0 (44 + j)) : Met l yL_isTold wsL_isTold ({ frames := 10, cells := 0, slots := 0, locals := 228 }) (ftRWS D cI cS sK sV [.ref o0, .ref p0, .ref t0, .int (nI C)] ([(t0, .inl (cI, 12, .inl tf))] ++ (ftCB9 cI cS o0 Ao (co.1.2.1 0) co ++ ftCB9 cI cS p0 Ap (cp.1.2.1 0) cp)) sz) (ftXi D ([(t0, .inl (cI, 12, .inl tf))] ++ (ftCB9 cI cS o0 Ao (co.1.2.1 0) co ++ ftCB9 cI cS p0 Ap (cp.1.2.1 0) cp)) sz (fun (o9 : Int32) (u : ftCdT × ftCdT × (Nat → Int32)) => o9 = 1 ∧ (∃ w1 z1 h1 t1 n1 wq tq nq x, lxO k u.1 w1 z1 h1 t1 n1 ∧ lxQ u.2.1 wq tq nq ∧ (∀ j, j < 11 → w1 (44 + j) = ftW0 (44 + j)) ∧ (∀ j, j < 11 → wq (44 + j) = ftW0 (44 + j)) ∧ lxFr t1 n1 x ∧ (x = 4 ∨ x ≠ 4 ∧ wq = w1 ∧ ftCN w1 < 9))) (fun (u : ftCdT × ftCdT × (Nat → Int32)) => ([(t0, .inl (cI, 12, .inl u.2.2))] ++ (ftCB9 cI cS o0 Ao (u.1.1.2.1 0) u.1 ++ ftCB9 cI cS p0 Ap (u.2.1.1.2.1 0) u.2.1)))) 0 0 (va_A ([(t0, .inl (cI, 12, .inl tf))] ++ (ftCB9 cI cS o0 Ao (co.1.2.1 0) co ++ ftCB9 cI cS p0 Ap (cp.1.2.1 0) cp)) sz) := by
  refine Met.ofW (cc := cL_isTold) (maxL := 16) (ret := (some .boolean)) (by decide) rfl ?_
  intro p e s m args below meth c s₁ B hml hv
  obtain ⟨rfl, hsz, hP, hKK, hD0, hSt⟩ := hv
  have hK := hKK.1
  have hx := B.exec
  have hb := B.bytes
  have hr := B.returns
  have hts := atoms_spec (ws := wsL_isTold) B.pre
  have hown : s.vm.findClass RL = some m.cls := findClass_of_methodNamed B.named
  have hlocks := B.notSynchronized
  subst hsz
  have hD := hD0.self (sz := s.heap.size)
  generalize hAe : va_A ([(t0, .inl (cI, 12, .inl tf))] ++ (ftCB9 cI cS o0 Ao (co.1.2.1 0) co ++ ftCB9 cI cS p0 Ap (cp.1.2.1 0) cp)) s.heap.size = A at hD hSt ⊢
  have hA : ∀ q : Nat, s.heap.size ≤ q → A q := fun q h => by rw [← hAe]; exact Or.inr h
  have hS : va_S A s.heap s.heap [] := va_S.rf
  have hD : va_D A ([(t0, .inl (cI, 12, .inl tf))] ++ (ftCB9 cI cS o0 Ao (co.1.2.1 0) co ++ ftCB9 cI cS p0 Ap (cp.1.2.1 0) cp)) := hD
  have hP : va_P D vwCl ([(t0, .inl (cI, 12, .inl tf))] ++ (ftCB9 cI cS o0 Ao (co.1.2.1 0) co ++ ftCB9 cI cS p0 Ap (cp.1.2.1 0) cp)) s.heap := hP
  have hl := lv_entry ([.ref o0, .ref p0, .ref t0, .int (nI C)]) (n := 16) (Nat.le_of_ble_eq_true rfl)
  rw [lg_entry_eq]
  generalize (lg_sl ([.ref o0, .ref p0, .ref t0, .int (nI C)]) ++ List.replicate (16 - (lg_sl ([.ref o0, .ref p0, .ref t0, .int (nI C)])).length) Slot.unset).toArray = ls at hl ⊢
  have hl : lv_has ls 16 [(0, .ref o0), (1, .ref p0), (2, .ref t0), (3, .int (nI C))] := hl
  have hOc : ∀ (ty : Nat → Int32) (tm : Nat), tm ≤ 120 → lxO k (lxTxt co ty tm) w z hm ty tm := fun _ _ h9 => lxO_txt hO h9
  have hQc : ∀ (ty : Nat → Int32) (tm : Nat), tm ≤ 120 → lxQ (lxTxt cp ty tm) wp ty tm := fun _ _ h9 => lxQ_txt hQ h9
  have hWf := lxO_W hO
  have hWp := lxQ_W hQ
  refine lv_iload_n hx hb dL_isTold_0 rfl (lv_at hl 3 rfl) ?_
  refine lv_istore (lv' := [(4, .int (nI C)), (0, .ref o0), (1, .ref p0), (2, .ref t0), (3, .int (nI C))]) hx hb dL_isTold_1 hl (by decide) rfl (fun ls hl => ?_)
  refine lv_iconst (v := 1) hx hb dL_isTold_3 (by decide) ?_
  refine lv_iload_n hx hb dL_isTold_4 rfl (lv_at hl 4 rfl) ?_
  refine lv_iconst (v := 3) hx hb dL_isTold_5 (by decide) ?_
  refine lv_irem hx hb dL_isTold_6 (by decide) ?_
  refine ft_top (y := ftRemI (nI C) 3) rfl ?_
  refine ft_top (y := nI (C % 3)) (ft_remN (b := 3) (by omega) (by omega) (by omega)) ?_
  refine lv_iadd hx hb dL_isTold_7 ?_
  refine ft_top (y := nI (1 + (C % 3))) (ft_addN 1 (C % 3)) ?_
  refine lv_istore (lv' := [(5, .int (nI (1 + (C % 3)))), (4, .int (nI C)), (0, .ref o0), (1, .ref p0), (2, .ref t0), (3, .int (nI C))]) hx hb dL_isTold_8 hl (by decide) rfl (fun ls hl => ?_)
  obtain ⟨N9, hN9⟩ : ∃ N9, N9 = 1 + C % 3 := ⟨_, rfl⟩
  rw [← hN9] at hl
  have hN3 : 1 ≤ N9 ∧ N9 ≤ 3 := by omega
  refine lv_bipush (v := 50) hx hb dL_isTold_10 (by decide) ?_
  refine lv_iload_n hx hb dL_isTold_12 rfl (lv_at hl 5 rfl) ?_
  refine lv_iconst (v := 3) hx hb dL_isTold_13 (by decide) ?_
  refine lv_ishr hx hb dL_isTold_14 ?_
  refine ft_top (y := nI (C / 8)) (pk_shrN hC _ 3 (by decide)) ?_
  refine lv_sipush (v := 351) hx hb dL_isTold_15 (by decide) ?_
  refine lv_irem hx hb dL_isTold_18 (by decide) ?_
  refine ft_top (y := ftRemI (nI (C / 8)) 351) rfl ?_
  refine ft_top (y := nI (C / 8 % 351)) (ft_remN (b := 351) (by omega) (by omega) (by omega)) ?_
  refine lv_iadd hx hb dL_isTold_19 ?_
  refine ft_top (y := nI (50 + (C / 8 % 351))) (ft_addN 50 (C / 8 % 351)) ?_
  refine lv_istore (lv' := [(6, .int (nI (50 + (C / 8 % 351)))), (5, .int (nI N9)), (4, .int (nI C)), (0, .ref o0), (1, .ref p0), (2, .ref t0), (3, .int (nI C))]) hx hb dL_isTold_20 hl (by decide) rfl (fun ls hl => ?_)
  obtain ⟨LN, hLN9⟩ : ∃ LN, LN = 50 + C / 8 % 351 := ⟨_, rfl⟩
  rw [← hLN9] at hl
  have hLN : 50 ≤ LN ∧ LN ≤ 400 := by omega
  refine lv_aload_n hx hb dL_isTold_22 rfl (lv_at hl 3 rfl) ?_
  refine ft_callB (X := (ftCB9 cI cS o0 Ao (co.1.2.1 0) co)) (Y := ([(t0, .inl (cI, 12, .inl tf))] ++ ftCB9 cI cS p0 Ap (cp.1.2.1 0) cp)) (X1 := fun (u23 : ftCdT) => (ftCB9 cI cS o0 Ao (u23.1.2.1 0) u23)) (ws1 := fun (u23 : ftCdT) => ([(t0, .inl (cI, 12, .inl tf))] ++ (ftCB9 cI cS o0 Ao (u23.1.2.1 0) u23 ++ ftCB9 cI cS p0 Ap (cp.1.2.1 0) cp))) (va_runV (C := RX10) (As := []) (rest := []) ⟨hx, hb, hml, hown, hts⟩ (et_clearText l D cI cS s.heap.size sK sV o0 Ao co) (cwV 0 hts gL_isTold_X10_clearText rfl rfl rfl (by decide +kernel) ⟨Nat.le_of_ble_eq_true rfl, Nat.le_of_ble_eq_true rfl⟩) (ft_preB (ci := 10) (List.perm_append_comm_assoc _ _ _) hP hD hKK hSt hS hA rfl rfl) rfl rfl hl.1 rfl (lv_room (Nat.le_of_ble_eq_true rfl)) dL_isTold_23 ⟨Nat.le_of_ble_eq_true rfl, Nat.le_of_ble_eq_true rfl⟩) hP hD hS hA (List.perm_append_comm_assoc _ _ _) (fun _ => (List.Perm.symm (List.perm_append_comm_assoc _ _ _))) (fun r23 u23 h23 H locs hP hD hS => ?_)
  have hP : va_P D vwCl ([(t0, .inl (cI, 12, .inl tf))] ++ (ftCB9 cI cS o0 Ao (u23.1.2.1 0) u23 ++ ftCB9 cI cS p0 Ap (cp.1.2.1 0) cp)) H := hP
  have hD : va_D A ([(t0, .inl (cI, 12, .inl tf))] ++ (ftCB9 cI cS o0 Ao (u23.1.2.1 0) u23 ++ ftCB9 cI cS p0 Ap (cp.1.2.1 0) cp)) := hD
  obtain ⟨hr23, hu23⟩ := h23
  subst hu23
  have hP : va_P D vwCl ([(t0, .inl (cI, 12, .inl tf))] ++ (ftCB9 cI cS o0 Ao ((lxTxt co co.2.2.1.2.1 0).1.2.1 0) (lxTxt co co.2.2.1.2.1 0) ++ ftCB9 cI cS p0 Ap (cp.1.2.1 0) cp)) H := hP
  have hD : va_D A ([(t0, .inl (cI, 12, .inl tf))] ++ (ftCB9 cI cS o0 Ao ((lxTxt co co.2.2.1.2.1 0).1.2.1 0) (lxTxt co co.2.2.1.2.1 0) ++ ftCB9 cI cS p0 Ap (cp.1.2.1 0) cp)) := hD
  refine lv_pop hx hb dL_isTold_26 rfl ?_
  refine lv_aload_n hx hb dL_isTold_27 rfl (lv_at hl 3 rfl) ?_
  refine lv_ldc2 (v := 119182899770472) hx hb hown (hts (.constantLong RL 21 119182899770472) (by decide +kernel)) dL_isTold_28 ?_
  refine ft_callBv (X := (ftCB9 cI cS o0 Ao ((lxTxt co co.2.2.1.2.1 0).1.2.1 0) (lxTxt co co.2.2.1.2.1 0))) (Y := ([(t0, .inl (cI, 12, .inl tf))] ++ ftCB9 cI cS p0 Ap (cp.1.2.1 0) cp)) (X1 := fun (u31 : ftCdT) => (ftCB9 cI cS o0 Ao (u31.1.2.1 0) u31)) (ws1 := fun (u31 : ftCdT) => ([(t0, .inl (cI, 12, .inl tf))] ++ (ftCB9 cI cS o0 Ao (u31.1.2.1 0) u31 ++ ftCB9 cI cS p0 Ap (cp.1.2.1 0) cp))) (va_runS (As := [.ref o0, .long 119182899770472]) (rest := []) ⟨hx, hb, hml, hown, hts⟩ (c_L_word l D cI cS H.size sK sV o0 Ao (lxTxt co co.2.2.1.2.1 0) 119182899770472 6 (lxWf 0) lxWd_0 (show 0 + 6 ≤ 120 by omega)) (va_cwS 2 hts gL_isTold_L_word rfl rfl rfl (by decide +kernel) ⟨Nat.le_of_ble_eq_true rfl, Nat.le_of_ble_eq_true rfl⟩) (ft_preBS (List.perm_append_comm_assoc _ _ _) hP hD hKK hSt hS hA) rfl rfl hl.1 rfl (lv_room (Nat.le_of_ble_eq_true rfl)) dL_isTold_31 ⟨Nat.le_of_ble_eq_true rfl, Nat.le_of_ble_eq_true rfl⟩) hP hD hS hA (List.perm_append_comm_assoc _ _ _) (fun _ => (List.Perm.symm (List.perm_append_comm_assoc _ _ _))) (fun u31 h31 H locs hP hD hS => ?_)
  have hP : va_P D vwCl ([(t0, .inl (cI, 12, .inl tf))] ++ (ftCB9 cI cS o0 Ao (u31.1.2.1 0) u31 ++ ftCB9 cI cS p0 Ap (cp.1.2.1 0) cp)) H := hP
  have hD : va_D A ([(t0, .inl (cI, 12, .inl tf))] ++ (ftCB9 cI cS o0 Ao (u31.1.2.1 0) u31 ++ ftCB9 cI cS p0 Ap (cp.1.2.1 0) cp)) := hD
  have hu31 := h31
  subst hu31
  have hP : va_P D vwCl ([(t0, .inl (cI, 12, .inl tf))] ++ (ftCB9 cI cS o0 Ao ((lxTxt co (lxTy (lxWf 0) co.2.2.1.2.1 0 6) (0 + 6)).1.2.1 0) (lxTxt co (lxTy (lxWf 0) co.2.2.1.2.1 0 6) (0 + 6)) ++ ftCB9 cI cS p0 Ap (cp.1.2.1 0) cp)) H := hP
  have hD : va_D A ([(t0, .inl (cI, 12, .inl tf))] ++ (ftCB9 cI cS o0 Ao ((lxTxt co (lxTy (lxWf 0) co.2.2.1.2.1 0 6) (0 + 6)).1.2.1 0) (lxTxt co (lxTy (lxWf 0) co.2.2.1.2.1 0 6) (0 + 6)) ++ ftCB9 cI cS p0 Ap (cp.1.2.1 0) cp)) := hD
  refine lv_aload_n hx hb dL_isTold_34 rfl (lv_at hl 3 rfl) ?_
  refine lv_iload hx hb dL_isTold_35 (lv_at hl 0 rfl) ?_
  refine ft_callBv (X := (ftCB9 cI cS o0 Ao ((lxTxt co (lxTy (lxWf 0) co.2.2.1.2.1 0 6) (0 + 6)).1.2.1 0) (lxTxt co (lxTy (lxWf 0) co.2.2.1.2.1 0 6) (0 + 6)))) (Y := ([(t0, .inl (cI, 12, .inl tf))] ++ ftCB9 cI cS p0 Ap (cp.1.2.1 0) cp)) (X1 := fun (u37 : ftCdT) => (ftCB9 cI cS o0 Ao (u37.1.2.1 0) u37)) (ws1 := fun (u37 : ftCdT) => ([(t0, .inl (cI, 12, .inl tf))] ++ (ftCB9 cI cS o0 Ao (u37.1.2.1 0) u37 ++ ftCB9 cI cS p0 Ap (cp.1.2.1 0) cp))) (va_runS (As := [.ref o0, .int (nI LN)]) (rest := []) ⟨hx, hb, hml, hown, hts⟩ (c_L_numberP l D cI cS H.size sK sV o0 Ao (lxTxt co (lxTy (lxWf 0) co.2.2.1.2.1 0 6) (0 + 6)) LN (by omega) (show 0 + 6 + 7 ≤ 120 by omega)) (va_cwS 2 hts gL_isTold_L_number rfl rfl rfl (by decide +kernel) ⟨Nat.le_of_ble_eq_true rfl, Nat.le_of_ble_eq_true rfl⟩) (ft_preBS (List.perm_append_comm_assoc _ _ _) hP hD hKK hSt hS hA) rfl rfl hl.1 rfl (lv_room (Nat.le_of_ble_eq_true rfl)) dL_isTold_37 ⟨Nat.le_of_ble_eq_true rfl, Nat.le_of_ble_eq_true rfl⟩) hP hD hS hA (List.perm_append_comm_assoc _ _ _) (fun _ => (List.Perm.symm (List.perm_append_comm_assoc _ _ _))) (fun u37 h37 H locs hP hD hS => ?_)
  have hP : va_P D vwCl ([(t0, .inl (cI, 12, .inl tf))] ++ (ftCB9 cI cS o0 Ao (u37.1.2.1 0) u37 ++ ftCB9 cI cS p0 Ap (cp.1.2.1 0) cp)) H := hP
  have hD : va_D A ([(t0, .inl (cI, 12, .inl tf))] ++ (ftCB9 cI cS o0 Ao (u37.1.2.1 0) u37 ++ ftCB9 cI cS p0 Ap (cp.1.2.1 0) cp)) := hD
  obtain ⟨d37, t37, hu37, hn37, ha37⟩ := h37
  subst hu37
  have hP : va_P D vwCl ([(t0, .inl (cI, 12, .inl tf))] ++ (ftCB9 cI cS o0 Ao ((lxTxt co t37 (0 + 6 + 1 + d37)).1.2.1 0) (lxTxt co t37 (0 + 6 + 1 + d37)) ++ ftCB9 cI cS p0 Ap (cp.1.2.1 0) cp)) H := hP
  have hD : va_D A ([(t0, .inl (cI, 12, .inl tf))] ++ (ftCB9 cI cS o0 Ao ((lxTxt co t37 (0 + 6 + 1 + d37)).1.2.1 0) (lxTxt co t37 (0 + 6 + 1 + d37)) ++ ftCB9 cI cS p0 Ap (cp.1.2.1 0) cp)) := hD
  have hn37 : lxN t37 (0 + 6) 1 d37 LN := hn37
  have ha37 : ∀ t, t < 0 + 6 → t37 t = (lxTy (lxWf 0) co.2.2.1.2.1 0 6) t := ha37
  have hd37 : 1 ≤ d37 ∧ d37 ≤ 5 := ⟨hn37.2.2.1, hn37.2.2.2.1⟩
  refine lv_aload_n hx hb dL_isTold_40 rfl (lv_at hl 3 rfl) ?_
  refine lv_bipush (v := 59) hx hb dL_isTold_41 (by decide) ?_
  refine ft_callB (X := (ftCB9 cI cS o0 Ao ((lxTxt co t37 (0 + 6 + 1 + d37)).1.2.1 0) (lxTxt co t37 (0 + 6 + 1 + d37)))) (Y := ([(t0, .inl (cI, 12, .inl tf))] ++ ftCB9 cI cS p0 Ap (cp.1.2.1 0) cp)) (X1 := fun (u43 : ftCdT) => (ftCB9 cI cS o0 Ao (u43.1.2.1 0) u43)) (ws1 := fun (u43 : ftCdT) => ([(t0, .inl (cI, 12, .inl tf))] ++ (ftCB9 cI cS o0 Ao (u43.1.2.1 0) u43 ++ ftCB9 cI cS p0 Ap (cp.1.2.1 0) cp))) (va_runV (C := RX10) (As := [.int 59]) (rest := []) ⟨hx, hb, hml, hown, hts⟩ (et_type l D cI cS H.size sK sV o0 Ao (lxTxt co t37 (0 + 6 + 1 + d37)) 59 (by decide) (show 0 + 6 + 1 + d37 < 120 by omega)) (cwV 1 hts gL_isTold_X10_type rfl rfl rfl (by decide +kernel) ⟨Nat.le_of_ble_eq_true rfl, Nat.le_of_ble_eq_true rfl⟩) (ft_preB (ci := 10) (List.perm_append_comm_assoc _ _ _) hP hD hKK hSt hS hA rfl rfl) rfl rfl hl.1 rfl (lv_room (Nat.le_of_ble_eq_true rfl)) dL_isTold_43 ⟨Nat.le_of_ble_eq_true rfl, Nat.le_of_ble_eq_true rfl⟩) hP hD hS hA (List.perm_append_comm_assoc _ _ _) (fun _ => (List.Perm.symm (List.perm_append_comm_assoc _ _ _))) (fun r43 u43 h43 H locs hP hD hS => ?_)
  have hP : va_P D vwCl ([(t0, .inl (cI, 12, .inl tf))] ++ (ftCB9 cI cS o0 Ao (u43.1.2.1 0) u43 ++ ftCB9 cI cS p0 Ap (cp.1.2.1 0) cp)) H := hP
  have hD : va_D A ([(t0, .inl (cI, 12, .inl tf))] ++ (ftCB9 cI cS o0 Ao (u43.1.2.1 0) u43 ++ ftCB9 cI cS p0 Ap (cp.1.2.1 0) cp)) := hD
  obtain ⟨hr43, hu43⟩ := h43
  subst hu43
  have hP : va_P D vwCl ([(t0, .inl (cI, 12, .inl tf))] ++ (ftCB9 cI cS o0 Ao ((lxTxt co (upd t37 (0 + 6 + 1 + d37) 59) (0 + 6 + 1 + d37 + 1)).1.2.1 0) (lxTxt co (upd t37 (0 + 6 + 1 + d37) 59) (0 + 6 + 1 + d37 + 1)) ++ ftCB9 cI cS p0 Ap (cp.1.2.1 0) cp)) H := hP
  have hD : va_D A ([(t0, .inl (cI, 12, .inl tf))] ++ (ftCB9 cI cS o0 Ao ((lxTxt co (upd t37 (0 + 6 + 1 + d37) 59) (0 + 6 + 1 + d37 + 1)).1.2.1 0) (lxTxt co (upd t37 (0 + 6 + 1 + d37) 59) (0 + 6 + 1 + d37 + 1)) ++ ftCB9 cI cS p0 Ap (cp.1.2.1 0) cp)) := hD
  refine lv_pop hx hb dL_isTold_46 rfl ?_
  refine lv_aload_n hx hb dL_isTold_47 rfl (lv_at hl 4 rfl) ?_
  refine ft_callB (X := (ftCB9 cI cS p0 Ap (cp.1.2.1 0) cp)) (Y := ([(t0, .inl (cI, 12, .inl tf))] ++ ftCB9 cI cS o0 Ao ((lxTxt co (upd t37 (0 + 6 + 1 + d37) 59) (0 + 6 + 1 + d37 + 1)).1.2.1 0) (lxTxt co (upd t37 (0 + 6 + 1 + d37) 59) (0 + 6 + 1 + d37 + 1)))) (X1 := fun (u48 : ftCdT) => (ftCB9 cI cS p0 Ap (u48.1.2.1 0) u48)) (ws1 := fun (u48 : ftCdT) => ([(t0, .inl (cI, 12, .inl tf))] ++ (ftCB9 cI cS o0 Ao ((lxTxt co (upd t37 (0 + 6 + 1 + d37) 59) (0 + 6 + 1 + d37 + 1)).1.2.1 0) (lxTxt co (upd t37 (0 + 6 + 1 + d37) 59) (0 + 6 + 1 + d37 + 1)) ++ ftCB9 cI cS p0 Ap (u48.1.2.1 0) u48))) (va_runV (C := RX10) (As := []) (rest := []) ⟨hx, hb, hml, hown, hts⟩ (et_clearText l D cI cS H.size sK sV p0 Ap cp) (cwV 0 hts gL_isTold_X10_clearText rfl rfl rfl (by decide +kernel) ⟨Nat.le_of_ble_eq_true rfl, Nat.le_of_ble_eq_true rfl⟩) (ft_preB (ci := 10) (ft_pm3 _ _ _) hP hD hKK hSt hS hA rfl rfl) rfl rfl hl.1 rfl (lv_room (Nat.le_of_ble_eq_true rfl)) dL_isTold_48 ⟨Nat.le_of_ble_eq_true rfl, Nat.le_of_ble_eq_true rfl⟩) hP hD hS hA (ft_pm3 _ _ _) (fun _ => (List.Perm.symm (ft_pm3 _ _ _))) (fun r48 u48 h48 H locs hP hD hS => ?_)
  have hP : va_P D vwCl ([(t0, .inl (cI, 12, .inl tf))] ++ (ftCB9 cI cS o0 Ao ((lxTxt co (upd t37 (0 + 6 + 1 + d37) 59) (0 + 6 + 1 + d37 + 1)).1.2.1 0) (lxTxt co (upd t37 (0 + 6 + 1 + d37) 59) (0 + 6 + 1 + d37 + 1)) ++ ftCB9 cI cS p0 Ap (u48.1.2.1 0) u48)) H := hP
  have hD : va_D A ([(t0, .inl (cI, 12, .inl tf))] ++ (ftCB9 cI cS o0 Ao ((lxTxt co (upd t37 (0 + 6 + 1 + d37) 59) (0 + 6 + 1 + d37 + 1)).1.2.1 0) (lxTxt co (upd t37 (0 + 6 + 1 + d37) 59) (0 + 6 + 1 + d37 + 1)) ++ ftCB9 cI cS p0 Ap (u48.1.2.1 0) u48)) := hD
  obtain ⟨hr48, hu48⟩ := h48
  subst hu48
  have hP : va_P D vwCl ([(t0, .inl (cI, 12, .inl tf))] ++ (ftCB9 cI cS o0 Ao ((lxTxt co (upd t37 (0 + 6 + 1 + d37) 59) (0 + 6 + 1 + d37 + 1)).1.2.1 0) (lxTxt co (upd t37 (0 + 6 + 1 + d37) 59) (0 + 6 + 1 + d37 + 1)) ++ ftCB9 cI cS p0 Ap ((lxTxt cp cp.2.2.1.2.1 0).1.2.1 0) (lxTxt cp cp.2.2.1.2.1 0))) H := hP
  have hD : va_D A ([(t0, .inl (cI, 12, .inl tf))] ++ (ftCB9 cI cS o0 Ao ((lxTxt co (upd t37 (0 + 6 + 1 + d37) 59) (0 + 6 + 1 + d37 + 1)).1.2.1 0) (lxTxt co (upd t37 (0 + 6 + 1 + d37) 59) (0 + 6 + 1 + d37 + 1)) ++ ftCB9 cI cS p0 Ap ((lxTxt cp cp.2.2.1.2.1 0).1.2.1 0) (lxTxt cp cp.2.2.1.2.1 0))) := hD
  refine lv_pop hx hb dL_isTold_51 rfl ?_
  refine lv_aload_n hx hb dL_isTold_52 rfl (lv_at hl 4 rfl) ?_
  refine lv_ldc2 (v := 119182899770472) hx hb hown (hts (.constantLong RL 21 119182899770472) (by decide +kernel)) dL_isTold_53 ?_
  refine ft_callBv (X := (ftCB9 cI cS p0 Ap ((lxTxt cp cp.2.2.1.2.1 0).1.2.1 0) (lxTxt cp cp.2.2.1.2.1 0))) (Y := ([(t0, .inl (cI, 12, .inl tf))] ++ ftCB9 cI cS o0 Ao ((lxTxt co (upd t37 (0 + 6 + 1 + d37) 59) (0 + 6 + 1 + d37 + 1)).1.2.1 0) (lxTxt co (upd t37 (0 + 6 + 1 + d37) 59) (0 + 6 + 1 + d37 + 1)))) (X1 := fun (u56 : ftCdT) => (ftCB9 cI cS p0 Ap (u56.1.2.1 0) u56)) (ws1 := fun (u56 : ftCdT) => ([(t0, .inl (cI, 12, .inl tf))] ++ (ftCB9 cI cS o0 Ao ((lxTxt co (upd t37 (0 + 6 + 1 + d37) 59) (0 + 6 + 1 + d37 + 1)).1.2.1 0) (lxTxt co (upd t37 (0 + 6 + 1 + d37) 59) (0 + 6 + 1 + d37 + 1)) ++ ftCB9 cI cS p0 Ap (u56.1.2.1 0) u56))) (va_runS (As := [.ref p0, .long 119182899770472]) (rest := []) ⟨hx, hb, hml, hown, hts⟩ (c_L_word l D cI cS H.size sK sV p0 Ap (lxTxt cp cp.2.2.1.2.1 0) 119182899770472 6 (lxWf 0) lxWd_0 (show 0 + 6 ≤ 120 by omega)) (va_cwS 2 hts gL_isTold_L_word rfl rfl rfl (by decide +kernel) ⟨Nat.le_of_ble_eq_true rfl, Nat.le_of_ble_eq_true rfl⟩) (ft_preBS (ft_pm3 _ _ _) hP hD hKK hSt hS hA) rfl rfl hl.1 rfl (lv_room (Nat.le_of_ble_eq_true rfl)) dL_isTold_56 ⟨Nat.le_of_ble_eq_true rfl, Nat.le_of_ble_eq_true rfl⟩) hP hD hS hA (ft_pm3 _ _ _) (fun _ => (List.Perm.symm (ft_pm3 _ _ _))) (fun u56 h56 H locs hP hD hS => ?_)
  have hP : va_P D vwCl ([(t0, .inl (cI, 12, .inl tf))] ++ (ftCB9 cI cS o0 Ao ((lxTxt co (upd t37 (0 + 6 + 1 + d37) 59) (0 + 6 + 1 + d37 + 1)).1.2.1 0) (lxTxt co (upd t37 (0 + 6 + 1 + d37) 59) (0 + 6 + 1 + d37 + 1)) ++ ftCB9 cI cS p0 Ap (u56.1.2.1 0) u56)) H := hP
  have hD : va_D A ([(t0, .inl (cI, 12, .inl tf))] ++ (ftCB9 cI cS o0 Ao ((lxTxt co (upd t37 (0 + 6 + 1 + d37) 59) (0 + 6 + 1 + d37 + 1)).1.2.1 0) (lxTxt co (upd t37 (0 + 6 + 1 + d37) 59) (0 + 6 + 1 + d37 + 1)) ++ ftCB9 cI cS p0 Ap (u56.1.2.1 0) u56)) := hD
  have hu56 := h56
  subst hu56
  have hP : va_P D vwCl ([(t0, .inl (cI, 12, .inl tf))] ++ (ftCB9 cI cS o0 Ao ((lxTxt co (upd t37 (0 + 6 + 1 + d37) 59) (0 + 6 + 1 + d37 + 1)).1.2.1 0) (lxTxt co (upd t37 (0 + 6 + 1 + d37) 59) (0 + 6 + 1 + d37 + 1)) ++ ftCB9 cI cS p0 Ap ((lxTxt cp (lxTy (lxWf 0) cp.2.2.1.2.1 0 6) (0 + 6)).1.2.1 0) (lxTxt cp (lxTy (lxWf 0) cp.2.2.1.2.1 0 6) (0 + 6)))) H := hP
  have hD : va_D A ([(t0, .inl (cI, 12, .inl tf))] ++ (ftCB9 cI cS o0 Ao ((lxTxt co (upd t37 (0 + 6 + 1 + d37) 59) (0 + 6 + 1 + d37 + 1)).1.2.1 0) (lxTxt co (upd t37 (0 + 6 + 1 + d37) 59) (0 + 6 + 1 + d37 + 1)) ++ ftCB9 cI cS p0 Ap ((lxTxt cp (lxTy (lxWf 0) cp.2.2.1.2.1 0 6) (0 + 6)).1.2.1 0) (lxTxt cp (lxTy (lxWf 0) cp.2.2.1.2.1 0 6) (0 + 6)))) := hD
  refine lv_aload_n hx hb dL_isTold_59 rfl (lv_at hl 4 rfl) ?_
  refine lv_iload hx hb dL_isTold_60 (lv_at hl 0 rfl) ?_
  refine ft_callBv (X := (ftCB9 cI cS p0 Ap ((lxTxt cp (lxTy (lxWf 0) cp.2.2.1.2.1 0 6) (0 + 6)).1.2.1 0) (lxTxt cp (lxTy (lxWf 0) cp.2.2.1.2.1 0 6) (0 + 6)))) (Y := ([(t0, .inl (cI, 12, .inl tf))] ++ ftCB9 cI cS o0 Ao ((lxTxt co (upd t37 (0 + 6 + 1 + d37) 59) (0 + 6 + 1 + d37 + 1)).1.2.1 0) (lxTxt co (upd t37 (0 + 6 + 1 + d37) 59) (0 + 6 + 1 + d37 + 1)))) (X1 := fun (u62 : ftCdT) => (ftCB9 cI cS p0 Ap (u62.1.2.1 0) u62)) (ws1 := fun (u62 : ftCdT) => ([(t0, .inl (cI, 12, .inl tf))] ++ (ftCB9 cI cS o0 Ao ((lxTxt co (upd t37 (0 + 6 + 1 + d37) 59) (0 + 6 + 1 + d37 + 1)).1.2.1 0) (lxTxt co (upd t37 (0 + 6 + 1 + d37) 59) (0 + 6 + 1 + d37 + 1)) ++ ftCB9 cI cS p0 Ap (u62.1.2.1 0) u62))) (va_runS (As := [.ref p0, .int (nI LN)]) (rest := []) ⟨hx, hb, hml, hown, hts⟩ (c_L_numberP l D cI cS H.size sK sV p0 Ap (lxTxt cp (lxTy (lxWf 0) cp.2.2.1.2.1 0 6) (0 + 6)) LN (by omega) (show 0 + 6 + 7 ≤ 120 by omega)) (va_cwS 2 hts gL_isTold_L_number rfl rfl rfl (by decide +kernel) ⟨Nat.le_of_ble_eq_true rfl, Nat.le_of_ble_eq_true rfl⟩) (ft_preBS (ft_pm3 _ _ _) hP hD hKK hSt hS hA) rfl rfl hl.1 rfl (lv_room (Nat.le_of_ble_eq_true rfl)) dL_isTold_62 ⟨Nat.le_of_ble_eq_true rfl, Nat.le_of_ble_eq_true rfl⟩) hP hD hS hA (ft_pm3 _ _ _) (fun _ => (List.Perm.symm (ft_pm3 _ _ _))) (fun u62 h62 H locs hP hD hS => ?_)
  have hP : va_P D vwCl ([(t0, .inl (cI, 12, .inl tf))] ++ (ftCB9 cI cS o0 Ao ((lxTxt co (upd t37 (0 + 6 + 1 + d37) 59) (0 + 6 + 1 + d37 + 1)).1.2.1 0) (lxTxt co (upd t37 (0 + 6 + 1 + d37) 59) (0 + 6 + 1 + d37 + 1)) ++ ftCB9 cI cS p0 Ap (u62.1.2.1 0) u62)) H := hP
  have hD : va_D A ([(t0, .inl (cI, 12, .inl tf))] ++ (ftCB9 cI cS o0 Ao ((lxTxt co (upd t37 (0 + 6 + 1 + d37) 59) (0 + 6 + 1 + d37 + 1)).1.2.1 0) (lxTxt co (upd t37 (0 + 6 + 1 + d37) 59) (0 + 6 + 1 + d37 + 1)) ++ ftCB9 cI cS p0 Ap (u62.1.2.1 0) u62)) := hD
  obtain ⟨d62, t62, hu62, hn62, ha62⟩ := h62
  subst hu62
  have hP : va_P D vwCl ([(t0, .inl (cI, 12, .inl tf))] ++ (ftCB9 cI cS o0 Ao ((lxTxt co (upd t37 (0 + 6 + 1 + d37) 59) (0 + 6 + 1 + d37 + 1)).1.2.1 0) (lxTxt co (upd t37 (0 + 6 + 1 + d37) 59) (0 + 6 + 1 + d37 + 1)) ++ ftCB9 cI cS p0 Ap ((lxTxt cp t62 (0 + 6 + 1 + d62)).1.2.1 0) (lxTxt cp t62 (0 + 6 + 1 + d62)))) H := hP
  have hD : va_D A ([(t0, .inl (cI, 12, .inl tf))] ++ (ftCB9 cI cS o0 Ao ((lxTxt co (upd t37 (0 + 6 + 1 + d37) 59) (0 + 6 + 1 + d37 + 1)).1.2.1 0) (lxTxt co (upd t37 (0 + 6 + 1 + d37) 59) (0 + 6 + 1 + d37 + 1)) ++ ftCB9 cI cS p0 Ap ((lxTxt cp t62 (0 + 6 + 1 + d62)).1.2.1 0) (lxTxt cp t62 (0 + 6 + 1 + d62)))) := hD
  have hn62 : lxN t62 (0 + 6) 1 d62 LN := hn62
  have ha62 : ∀ t, t < 0 + 6 → t62 t = (lxTy (lxWf 0) cp.2.2.1.2.1 0 6) t := ha62
  have hd62 : 1 ≤ d62 ∧ d62 ≤ 5 := ⟨hn62.2.2.1, hn62.2.2.2.1⟩
  refine lv_aload_n hx hb dL_isTold_65 rfl (lv_at hl 4 rfl) ?_
  refine lv_bipush (v := 59) hx hb dL_isTold_66 (by decide) ?_
  refine ft_callB (X := (ftCB9 cI cS p0 Ap ((lxTxt cp t62 (0 + 6 + 1 + d62)).1.2.1 0) (lxTxt cp t62 (0 + 6 + 1 + d62)))) (Y := ([(t0, .inl (cI, 12, .inl tf))] ++ ftCB9 cI cS o0 Ao ((lxTxt co (upd t37 (0 + 6 + 1 + d37) 59) (0 + 6 + 1 + d37 + 1)).1.2.1 0) (lxTxt co (upd t37 (0 + 6 + 1 + d37) 59) (0 + 6 + 1 + d37 + 1)))) (X1 := fun (u68 : ftCdT) => (ftCB9 cI cS p0 Ap (u68.1.2.1 0) u68)) (ws1 := fun (u68 : ftCdT) => ([(t0, .inl (cI, 12, .inl tf))] ++ (ftCB9 cI cS o0 Ao ((lxTxt co (upd t37 (0 + 6 + 1 + d37) 59) (0 + 6 + 1 + d37 + 1)).1.2.1 0) (lxTxt co (upd t37 (0 + 6 + 1 + d37) 59) (0 + 6 + 1 + d37 + 1)) ++ ftCB9 cI cS p0 Ap (u68.1.2.1 0) u68))) (va_runV (C := RX10) (As := [.int 59]) (rest := []) ⟨hx, hb, hml, hown, hts⟩ (et_type l D cI cS H.size sK sV p0 Ap (lxTxt cp t62 (0 + 6 + 1 + d62)) 59 (by decide) (show 0 + 6 + 1 + d62 < 120 by omega)) (cwV 1 hts gL_isTold_X10_type rfl rfl rfl (by decide +kernel) ⟨Nat.le_of_ble_eq_true rfl, Nat.le_of_ble_eq_true rfl⟩) (ft_preB (ci := 10) (ft_pm3 _ _ _) hP hD hKK hSt hS hA rfl rfl) rfl rfl hl.1 rfl (lv_room (Nat.le_of_ble_eq_true rfl)) dL_isTold_68 ⟨Nat.le_of_ble_eq_true rfl, Nat.le_of_ble_eq_true rfl⟩) hP hD hS hA (ft_pm3 _ _ _) (fun _ => (List.Perm.symm (ft_pm3 _ _ _))) (fun r68 u68 h68 H locs hP hD hS => ?_)
  have hP : va_P D vwCl ([(t0, .inl (cI, 12, .inl tf))] ++ (ftCB9 cI cS o0 Ao ((lxTxt co (upd t37 (0 + 6 + 1 + d37) 59) (0 + 6 + 1 + d37 + 1)).1.2.1 0) (lxTxt co (upd t37 (0 + 6 + 1 + d37) 59) (0 + 6 + 1 + d37 + 1)) ++ ftCB9 cI cS p0 Ap (u68.1.2.1 0) u68)) H := hP
  have hD : va_D A ([(t0, .inl (cI, 12, .inl tf))] ++ (ftCB9 cI cS o0 Ao ((lxTxt co (upd t37 (0 + 6 + 1 + d37) 59) (0 + 6 + 1 + d37 + 1)).1.2.1 0) (lxTxt co (upd t37 (0 + 6 + 1 + d37) 59) (0 + 6 + 1 + d37 + 1)) ++ ftCB9 cI cS p0 Ap (u68.1.2.1 0) u68)) := hD
  obtain ⟨hr68, hu68⟩ := h68
  subst hu68
  have hP : va_P D vwCl ([(t0, .inl (cI, 12, .inl tf))] ++ (ftCB9 cI cS o0 Ao ((lxTxt co (upd t37 (0 + 6 + 1 + d37) 59) (0 + 6 + 1 + d37 + 1)).1.2.1 0) (lxTxt co (upd t37 (0 + 6 + 1 + d37) 59) (0 + 6 + 1 + d37 + 1)) ++ ftCB9 cI cS p0 Ap ((lxTxt cp (upd t62 (0 + 6 + 1 + d62) 59) (0 + 6 + 1 + d62 + 1)).1.2.1 0) (lxTxt cp (upd t62 (0 + 6 + 1 + d62) 59) (0 + 6 + 1 + d62 + 1)))) H := hP
  have hD : va_D A ([(t0, .inl (cI, 12, .inl tf))] ++ (ftCB9 cI cS o0 Ao ((lxTxt co (upd t37 (0 + 6 + 1 + d37) 59) (0 + 6 + 1 + d37 + 1)).1.2.1 0) (lxTxt co (upd t37 (0 + 6 + 1 + d37) 59) (0 + 6 + 1 + d37 + 1)) ++ ftCB9 cI cS p0 Ap ((lxTxt cp (upd t62 (0 + 6 + 1 + d62) 59) (0 + 6 + 1 + d62 + 1)).1.2.1 0) (lxTxt cp (upd t62 (0 + 6 + 1 + d62) 59) (0 + 6 + 1 + d62 + 1)))) := hD
  refine lv_pop hx hb dL_isTold_71 rfl ?_
  have jn128 : ∀ (to1 : Nat → Int32) (no1 : Nat) (tp1 : Nat → Int32) (np1 K1 h1 : Nat) (m1 : Nat → Int32), (lxG to1 K1 no1 h1 m1) → (lxG tp1 K1 np1 h1 m1) → (no1 ≤ 23) → (np1 ≤ 23) → (m1 0 = nI LN) → (m1 3 = 0) → ∀ (H : Heap) (locs : List Loc), va_P D vwCl ([(t0, .inl (cI, 12, .inl tf))] ++ (ftCB9 cI cS o0 Ao ((lxTxt co to1 no1).1.2.1 0) (lxTxt co to1 no1) ++ ftCB9 cI cS p0 Ap ((lxTxt cp tp1 np1).1.2.1 0) (lxTxt cp tp1 np1))) H → va_D A ([(t0, .inl (cI, 12, .inl tf))] ++ (ftCB9 cI cS o0 Ao ((lxTxt co to1 no1).1.2.1 0) (lxTxt co to1 no1) ++ ftCB9 cI cS p0 Ap ((lxTxt cp tp1 np1).1.2.1 0) (lxTxt cp tp1 np1))) → va_S A s.heap H locs → ∀ ls : Array Slot, lv_has ls 16 [(6, .int (nI LN)), (5, .int (nI N9)), (4, .int (nI C)), (0, .ref o0), (1, .ref p0), (2, .ref t0), (3, .int (nI C))] → W p l e (headSpec wsL_isTold { frames := 10, cells := 0, slots := 0, locals := 228 }).room s m ([.ref o0, .ref p0, .ref t0, .int (nI C)] : List Value).toArray below meth c H locs 0 0 (MQ below (ftXi D ([(t0, .inl (cI, 12, .inl tf))] ++ (ftCB9 cI cS o0 Ao (co.1.2.1 0) co ++ ftCB9 cI cS p0 Ap (cp.1.2.1 0) cp)) s.heap.size (fun (o9 : Int32) (u : ftCdT × ftCdT × (Nat → Int32)) => o9 = 1 ∧ (∃ w1 z1 h1 t1 n1 wq tq nq x, lxO k u.1 w1 z1 h1 t1 n1 ∧ lxQ u.2.1 wq tq nq ∧ (∀ j, j < 11 → w1 (44 + j) = ftW0 (44 + j)) ∧ (∀ j, j < 11 → wq (44 + j) = ftW0 (44 + j)) ∧ lxFr t1 n1 x ∧ (x = 4 ∨ x ≠ 4 ∧ wq = w1 ∧ ftCN w1 < 9))) (fun (u : ftCdT × ftCdT × (Nat → Int32)) => ([(t0, .inl (cI, 12, .inl u.2.2))] ++ (ftCB9 cI cS o0 Ao (u.1.1.2.1 0) u.1 ++ ftCB9 cI cS p0 Ap (u.2.1.1.2.1 0) u.2.1)))) ([.ref o0, .ref p0, .ref t0, .int (nI C)] : List Value).toArray s 0 0 A) (F0 m 128 ls []) := by
    intro to1 no1 tp1 np1 K1 h1 m1 hG1 hGp hno1 hnp1 hm0 hm3 H locs hP hD hS ls hl
    have hcn1 : ftCN m1 = 0 := by unfold ftCN; rw [hm3]; rfl
    refine lv_aload_n hx hb dL_isTold_128 rfl (lv_at hl 4 rfl) ?_
    refine ft_callB (X := (ftCB9 cI cS p0 Ap ((lxTxt cp tp1 np1).1.2.1 0) (lxTxt cp tp1 np1))) (Y := ([(t0, .inl (cI, 12, .inl tf))] ++ ftCB9 cI cS o0 Ao ((lxTxt co to1 no1).1.2.1 0) (lxTxt co to1 no1))) (X1 := fun (u129 : ftCdT) => (ftCB9 cI cS p0 Ap (u129.1.2.1 0) u129)) (ws1 := fun (u129 : ftCdT) => ([(t0, .inl (cI, 12, .inl tf))] ++ (ftCB9 cI cS o0 Ao ((lxTxt co to1 no1).1.2.1 0) (lxTxt co to1 no1) ++ ftCB9 cI cS p0 Ap (u129.1.2.1 0) u129))) (va_runV (C := RX10) (As := []) (rest := []) ⟨hx, hb, hml, hown, hts⟩ (ep_lay l D cI cS H.size sK sV p0 Ap (lxTxt cp tp1 np1) wp tp1 np1 (hQc _ _ (by omega)) (lxG_all hGp)) (cwV 0 hts gL_isTold_X10_lay rfl rfl rfl (by decide +kernel) ⟨Nat.le_of_ble_eq_true rfl, Nat.le_of_ble_eq_true rfl⟩) (ft_preB (ci := 10) (ft_pm3 _ _ _) hP hD hKK hSt hS hA rfl rfl) rfl rfl hl.1 rfl (lv_room (Nat.le_of_ble_eq_true rfl)) dL_isTold_129 ⟨Nat.le_of_ble_eq_true rfl, Nat.le_of_ble_eq_true rfl⟩) hP hD hS hA (ft_pm3 _ _ _) (fun _ => (List.Perm.symm (ft_pm3 _ _ _))) (fun r129 u129 h129 H locs hP hD hS => ?_)
    have hP : va_P D vwCl ([(t0, .inl (cI, 12, .inl tf))] ++ (ftCB9 cI cS o0 Ao ((lxTxt co to1 no1).1.2.1 0) (lxTxt co to1 no1) ++ ftCB9 cI cS p0 Ap (u129.1.2.1 0) u129)) H := hP
    have hD : va_D A ([(t0, .inl (cI, 12, .inl tf))] ++ (ftCB9 cI cS o0 Ao ((lxTxt co to1 no1).1.2.1 0) (lxTxt co to1 no1) ++ ftCB9 cI cS p0 Ap (u129.1.2.1 0) u129)) := hD
    obtain ⟨hr129, hQ1, hf129⟩ := h129
    have hP : va_P D vwCl ([(t0, .inl (cI, 12, .inl tf))] ++ (ftCB9 cI cS o0 Ao ((lxTxt co to1 no1).1.2.1 0) (lxTxt co to1 no1) ++ ftCB9 cI cS p0 Ap ((lxTxt u129 tp1 np1).1.2.1 0) (lxTxt u129 tp1 np1))) H := (by rw [← lxQ_self hQ1]; exact hP)
    have hD : va_D A ([(t0, .inl (cI, 12, .inl tf))] ++ (ftCB9 cI cS o0 Ao ((lxTxt co to1 no1).1.2.1 0) (lxTxt co to1 no1) ++ ftCB9 cI cS p0 Ap ((lxTxt u129 tp1 np1).1.2.1 0) (lxTxt u129 tp1 np1))) := (by rw [← lxQ_self hQ1]; exact hD)
    have hQc : ∀ (ty : Nat → Int32) (tm : Nat), tm ≤ 120 → lxQ (lxTxt u129 ty tm) (ftLayW wp m1) ty tm := fun _ _ h9 => lxQ_txt hQ1 h9
    have hfp : u129.1.2.1 3 = 0 := hf129
    subst hr129
    refine ft_top (y := 0) (by unfold ftCN; rw [hm3]; rfl) ?_
    refine lv_if_ne (tgt := 150) hx hb dL_isTold_132 (by decide) (fun c132 => ?_) (fun c132 => ?_)
    · exact absurd rfl c132
    · refine lv_aload_n hx hb dL_isTold_135 rfl (lv_at hl 4 rfl) ?_
      refine lv_bipush (v := 11) hx hb dL_isTold_136 (by decide) ?_
      refine ft_callB (X := (ftCB9 cI cS p0 Ap ((lxTxt u129 tp1 np1).1.2.1 0) (lxTxt u129 tp1 np1))) (Y := ([(t0, .inl (cI, 12, .inl tf))] ++ ftCB9 cI cS o0 Ao ((lxTxt co to1 no1).1.2.1 0) (lxTxt co to1 no1))) (X1 := fun (u138 : ftCdT) => (ftCB9 cI cS p0 Ap (u138.1.2.1 0) u138)) (ws1 := fun (u138 : ftCdT) => ([(t0, .inl (cI, 12, .inl tf))] ++ (ftCB9 cI cS o0 Ao ((lxTxt co to1 no1).1.2.1 0) (lxTxt co to1 no1) ++ ftCB9 cI cS p0 Ap (u138.1.2.1 0) u138))) (va_runV (C := RX10) (As := [.int 11]) (rest := []) ⟨hx, hb, hml, hown, hts⟩ (ep_count l D cI cS H.size sK sV p0 Ap (lxTxt u129 tp1 np1) (ftLayW wp m1) tp1 np1 11 (hQc _ _ (by omega)) ⟨11, by omega, by omega, rfl⟩) (cwV 1 hts gL_isTold_X10_count rfl rfl rfl (by decide +kernel) ⟨Nat.le_of_ble_eq_true rfl, Nat.le_of_ble_eq_true rfl⟩) (ft_preB (ci := 10) (ft_pm3 _ _ _) hP hD hKK hSt hS hA rfl rfl) rfl rfl hl.1 rfl (lv_room (Nat.le_of_ble_eq_true rfl)) dL_isTold_138 ⟨Nat.le_of_ble_eq_true rfl, Nat.le_of_ble_eq_true rfl⟩) hP hD hS hA (ft_pm3 _ _ _) (fun _ => (List.Perm.symm (ft_pm3 _ _ _))) (fun r138 u138 h138 H locs hP hD hS => ?_)
      have hP : va_P D vwCl ([(t0, .inl (cI, 12, .inl tf))] ++ (ftCB9 cI cS o0 Ao ((lxTxt co to1 no1).1.2.1 0) (lxTxt co to1 no1) ++ ftCB9 cI cS p0 Ap (u138.1.2.1 0) u138)) H := hP
      have hD : va_D A ([(t0, .inl (cI, 12, .inl tf))] ++ (ftCB9 cI cS o0 Ao ((lxTxt co to1 no1).1.2.1 0) (lxTxt co to1 no1) ++ ftCB9 cI cS p0 Ap (u138.1.2.1 0) u138)) := hD
      obtain ⟨hr138, hu138⟩ := h138
      rw [hu138] at hP hD
      have hP : va_P D vwCl ([(t0, .inl (cI, 12, .inl tf))] ++ (ftCB9 cI cS o0 Ao ((lxTxt co to1 no1).1.2.1 0) (lxTxt co to1 no1) ++ ftCB9 cI cS p0 Ap ((lxTxt u129 tp1 np1).1.2.1 0) (lxTxt u129 tp1 np1))) H := hP
      have hD : va_D A ([(t0, .inl (cI, 12, .inl tf))] ++ (ftCB9 cI cS o0 Ao ((lxTxt co to1 no1).1.2.1 0) (lxTxt co to1 no1) ++ ftCB9 cI cS p0 Ap ((lxTxt u129 tp1 np1).1.2.1 0) (lxTxt u129 tp1 np1))) := hD
      refine lv_iload hx hb dL_isTold_141 (lv_at hl 0 rfl) ?_
      refine lv_icmp_ne (tgt := 150) hx hb dL_isTold_143 (by decide) (fun c143 => ?_) (fun c143 => ?_)
      · exact absurd ((hr138 0 0).trans ((lxCnt_k (k := 11) (by omega) rfl).trans ((ftLay_at (w := wp) (m := m1) (t := 0) (by omega) (by omega)).trans hm0))) c143
      · refine lv_iconst (v := 1) hx hb dL_isTold_146 (by decide) ?_
        refine lv_goto (tgt := 151) hx hb dL_isTold_147 (by decide) ?_
        refine lv_istore (lv' := [(7, .int 1), (6, .int (nI LN)), (5, .int (nI N9)), (4, .int (nI C)), (0, .ref o0), (1, .ref p0), (2, .ref t0), (3, .int (nI C))]) hx hb dL_isTold_151 hl (by decide) rfl (fun ls hl => ?_)
        refine lv_iconst (v := 0) hx hb dL_isTold_153 (by decide) ?_
        refine lv_istore (lv' := [(8, .int 0), (7, .int 1), (6, .int (nI LN)), (5, .int (nI N9)), (4, .int (nI C)), (0, .ref o0), (1, .ref p0), (2, .ref t0), (3, .int (nI C))]) hx hb dL_isTold_154 hl (by decide) rfl (fun ls hl => ?_)
        have lp156 : ∀ (n156 : Nat) (kk V : Nat) (co9 cp9 : ftCdT) (to9 : Nat → Int32) (no9 K7 h7 : Nat) (mo wp9 tf9 : Nat → Int32) (x156_4 : Int32) (x156_8 : Int32) (g156_t0 : Nat → Int32), N9 - kk < n156 → (kk ≤ N9) → (V < 2 ^ 31) → (no9 ≤ 23 + 31 * kk) → (lxG to9 K7 no9 h7 mo) → (∀ (ty : Nat → Int32) (tm : Nat), tm ≤ 120 → lxO k (lxTxt co9 ty tm) w z hm ty tm) → (∀ (ty : Nat → Int32) (tm : Nat), tm ≤ 120 → lxQ (lxTxt cp9 ty tm) wp9 ty tm) → (cp9.1.2.1 3 = 0) → (ftCN mo = kk) → (lxEq wp9 mo) → (∀ j, j < 11 → wp9 (44 + j) = ftW0 (44 + j)) → (∀ x, (∃ i, i < kk ∧ tf9 (4 * i + 1) = x) ↔ lxPl mo x) → (mo 0 = nI LN) → x156_4 = nI V → x156_8 = nI kk → g156_t0 = tf9 → ∀ (H : Heap) (locs : List Loc), va_P D vwCl ([(t0, .inl (cI, 12, .inl g156_t0))] ++ (ftCB9 cI cS o0 Ao ((lxTxt co9 to9 no9).1.2.1 0) (lxTxt co9 to9 no9) ++ ftCB9 cI cS p0 Ap ((lxTxt cp9 tp1 np1).1.2.1 0) (lxTxt cp9 tp1 np1))) H → va_D A ([(t0, .inl (cI, 12, .inl g156_t0))] ++ (ftCB9 cI cS o0 Ao ((lxTxt co9 to9 no9).1.2.1 0) (lxTxt co9 to9 no9) ++ ftCB9 cI cS p0 Ap ((lxTxt cp9 tp1 np1).1.2.1 0) (lxTxt cp9 tp1 np1))) → va_S A s.heap H locs → ∀ ls : Array Slot, lv_has ls 16 [(0, .ref o0), (1, .ref p0), (2, .ref t0), (3, .int (nI C)), (4, .int x156_4), (5, .int (nI N9)), (6, .int (nI LN)), (7, .int 1), (8, .int x156_8)] → W p l e (headSpec wsL_isTold { frames := 10, cells := 0, slots := 0, locals := 228 }).room s m ([.ref o0, .ref p0, .ref t0, .int (nI C)] : List Value).toArray below meth c H locs 0 0 (MQ below (ftXi D ([(t0, .inl (cI, 12, .inl tf))] ++ (ftCB9 cI cS o0 Ao (co.1.2.1 0) co ++ ftCB9 cI cS p0 Ap (cp.1.2.1 0) cp)) s.heap.size (fun (o9 : Int32) (u : ftCdT × ftCdT × (Nat → Int32)) => o9 = 1 ∧ (∃ w1 z1 h1 t1 n1 wq tq nq x, lxO k u.1 w1 z1 h1 t1 n1 ∧ lxQ u.2.1 wq tq nq ∧ (∀ j, j < 11 → w1 (44 + j) = ftW0 (44 + j)) ∧ (∀ j, j < 11 → wq (44 + j) = ftW0 (44 + j)) ∧ lxFr t1 n1 x ∧ (x = 4 ∨ x ≠ 4 ∧ wq = w1 ∧ ftCN w1 < 9))) (fun (u : ftCdT × ftCdT × (Nat → Int32)) => ([(t0, .inl (cI, 12, .inl u.2.2))] ++ (ftCB9 cI cS o0 Ao (u.1.1.2.1 0) u.1 ++ ftCB9 cI cS p0 Ap (u.2.1.1.2.1 0) u.2.1)))) ([.ref o0, .ref p0, .ref t0, .int (nI C)] : List Value).toArray s 0 0 A) (F0 m 156 ls []) := by
          intro n156
          induction n156 with
          | zero =>
            intro kk V co9 cp9 to9 no9 K7 h7 mo wp9 tf9 x156_4 x156_8 g156_t0 hm156
            exact absurd hm156 (Nat.not_lt_zero _)
          | succ n156 ih156 =>
            intro kk V co9 cp9 to9 no9 K7 h7 mo wp9 tf9 x156_4 x156_8 g156_t0 hm156 hkk hV hno hG hOc hQc hfp hcn9 hEq9 hset9 hpl9 hm09 ex156_4 ex156_8 eg156_t0 H locs hP hD hS ls hl
            subst ex156_4
            subst ex156_8
            replace eg156_t0 := eg156_t0.symm; subst eg156_t0
            have hcw : ftCN wp9 = kk := (lxEq_cn hEq9).trans hcn9
            have hLfm := lxG_lf hG
            have hm39 := ftLf_3 hLfm
            refine lv_iload hx hb dL_isTold_156 (lv_at hl 8 rfl) ?_
            refine lv_iload hx hb dL_isTold_158 (lv_at hl 5 rfl) ?_
            refine lv_icmp_ge (tgt := 542) hx hb dL_isTold_160 (by decide) (fun c160 => ?_) (fun c160 => ?_)
            · have c160n : N9 ≤ kk := ft_leN (by omega) (by omega) c160
              have hke : kk = N9 := by omega
              refine lv_iload hx hb dL_isTold_542 (lv_at hl 7 rfl) ?_
              refine lv_if_eq (tgt := 589) hx hb dL_isTold_544 (by decide) (fun c544 => ?_) (fun c544 => ?_)
              · exact absurd c544 (by decide)
              · refine lv_aload_n hx hb dL_isTold_547 rfl (lv_at hl 0 rfl) ?_
                refine lv_iconst (v := 0) hx hb dL_isTold_548 (by decide) ?_
                refine ft_callB (X := (ftCB9 cI cS o0 Ao ((lxTxt co9 to9 no9).1.2.1 0) (lxTxt co9 to9 no9))) (Y := ([(t0, .inl (cI, 12, .inl tf9))] ++ ftCB9 cI cS p0 Ap ((lxTxt cp9 tp1 np1).1.2.1 0) (lxTxt cp9 tp1 np1))) (X1 := fun (u549 : ftCdT) => (ftCB9 cI cS o0 Ao (u549.1.2.1 0) u549)) (ws1 := fun (u549 : ftCdT) => ([(t0, .inl (cI, 12, .inl tf9))] ++ (ftCB9 cI cS o0 Ao (u549.1.2.1 0) u549 ++ ftCB9 cI cS p0 Ap ((lxTxt cp9 tp1 np1).1.2.1 0) (lxTxt cp9 tp1 np1)))) (va_runV (C := RX10) (As := [.int 0]) (rest := []) ⟨hx, hb, hml, hown, hts⟩ (eo_fault l D cI cS H.size sK sV o0 Ao (lxTxt co9 to9 no9) k w z hm to9 no9 0 (by omega) (hOc _ _ (by omega))) (cwV 1 hts gL_isTold_X10_fault rfl rfl rfl (by decide +kernel) ⟨Nat.le_of_ble_eq_true rfl, Nat.le_of_ble_eq_true rfl⟩) (ft_preB (ci := 10) (List.perm_append_comm_assoc _ _ _) hP hD hKK hSt hS hA rfl rfl) rfl rfl hl.1 rfl (lv_room (Nat.le_of_ble_eq_true rfl)) dL_isTold_549 ⟨Nat.le_of_ble_eq_true rfl, Nat.le_of_ble_eq_true rfl⟩) hP hD hS hA (List.perm_append_comm_assoc _ _ _) (fun _ => (List.Perm.symm (List.perm_append_comm_assoc _ _ _))) (fun r549 u549 h549 H locs hP hD hS => ?_)
                have hP : va_P D vwCl ([(t0, .inl (cI, 12, .inl tf9))] ++ (ftCB9 cI cS o0 Ao (u549.1.2.1 0) u549 ++ ftCB9 cI cS p0 Ap ((lxTxt cp9 tp1 np1).1.2.1 0) (lxTxt cp9 tp1 np1))) H := hP
                have hD : va_D A ([(t0, .inl (cI, 12, .inl tf9))] ++ (ftCB9 cI cS o0 Ao (u549.1.2.1 0) u549 ++ ftCB9 cI cS p0 Ap ((lxTxt cp9 tp1 np1).1.2.1 0) (lxTxt cp9 tp1 np1))) := hD
                obtain ⟨hr549, hO1⟩ := h549
                have hP : va_P D vwCl ([(t0, .inl (cI, 12, .inl tf9))] ++ (ftCB9 cI cS o0 Ao ((lxTxt u549 to9 no9).1.2.1 0) (lxTxt u549 to9 no9) ++ ftCB9 cI cS p0 Ap ((lxTxt cp9 tp1 np1).1.2.1 0) (lxTxt cp9 tp1 np1))) H := (by rw [← lxO_self hO1]; exact hP)
                have hD : va_D A ([(t0, .inl (cI, 12, .inl tf9))] ++ (ftCB9 cI cS o0 Ao ((lxTxt u549 to9 no9).1.2.1 0) (lxTxt u549 to9 no9) ++ ftCB9 cI cS p0 Ap ((lxTxt cp9 tp1 np1).1.2.1 0) (lxTxt cp9 tp1 np1))) := (by rw [← lxO_self hO1]; exact hD)
                have hOc : ∀ (ty : Nat → Int32) (tm : Nat), tm ≤ 120 → lxO k (lxTxt u549 ty tm) w z hm ty tm := fun _ _ h9 => lxO_txt hO1 h9
                have e549 : r549 = (-1000004) := lx_faO hr549 ⟨by decide, by decide⟩ (lxG_all hG)
                subst e549
                refine lv_ldc (v := (-1000004)) hx hb hown (hts (.constant RL 70 (-1000004)) (by decide +kernel)) dL_isTold_552 ?_
                refine lv_icmp_ne (tgt := 589) hx hb dL_isTold_554 (by decide) (fun c554 => ?_) (fun c554 => ?_)
                · exact absurd (by decide) c554
                · refine lv_aload_n hx hb dL_isTold_557 rfl (lv_at hl 0 rfl) ?_
                  refine ft_callB (X := (ftCB9 cI cS o0 Ao ((lxTxt u549 to9 no9).1.2.1 0) (lxTxt u549 to9 no9))) (Y := ([(t0, .inl (cI, 12, .inl tf9))] ++ ftCB9 cI cS p0 Ap ((lxTxt cp9 tp1 np1).1.2.1 0) (lxTxt cp9 tp1 np1))) (X1 := fun (u558 : ftCdT) => (ftCB9 cI cS o0 Ao (u558.1.2.1 0) u558)) (ws1 := fun (u558 : ftCdT) => ([(t0, .inl (cI, 12, .inl tf9))] ++ (ftCB9 cI cS o0 Ao (u558.1.2.1 0) u558 ++ ftCB9 cI cS p0 Ap ((lxTxt cp9 tp1 np1).1.2.1 0) (lxTxt cp9 tp1 np1)))) (va_runV (C := RX10) (As := []) (rest := []) ⟨hx, hb, hml, hown, hts⟩ (eo_lay l D cI cS H.size sK sV o0 Ao (lxTxt u549 to9 no9) k w z hm to9 no9 (by omega) (hOc _ _ (by omega)) (lxG_all hG)) (cwV 0 hts gL_isTold_X10_lay rfl rfl rfl (by decide +kernel) ⟨Nat.le_of_ble_eq_true rfl, Nat.le_of_ble_eq_true rfl⟩) (ft_preB (ci := 10) (List.perm_append_comm_assoc _ _ _) hP hD hKK hSt hS hA rfl rfl) rfl rfl hl.1 rfl (lv_room (Nat.le_of_ble_eq_true rfl)) dL_isTold_558 ⟨Nat.le_of_ble_eq_true rfl, Nat.le_of_ble_eq_true rfl⟩) hP hD hS hA (List.perm_append_comm_assoc _ _ _) (fun _ => (List.Perm.symm (List.perm_append_comm_assoc _ _ _))) (fun r558 u558 h558 H locs hP hD hS => ?_)
                  have hP : va_P D vwCl ([(t0, .inl (cI, 12, .inl tf9))] ++ (ftCB9 cI cS o0 Ao (u558.1.2.1 0) u558 ++ ftCB9 cI cS p0 Ap ((lxTxt cp9 tp1 np1).1.2.1 0) (lxTxt cp9 tp1 np1))) H := hP
                  have hD : va_D A ([(t0, .inl (cI, 12, .inl tf9))] ++ (ftCB9 cI cS o0 Ao (u558.1.2.1 0) u558 ++ ftCB9 cI cS p0 Ap ((lxTxt cp9 tp1 np1).1.2.1 0) (lxTxt cp9 tp1 np1))) := hD
                  obtain ⟨hr558, hO1⟩ := h558
                  have hP : va_P D vwCl ([(t0, .inl (cI, 12, .inl tf9))] ++ (ftCB9 cI cS o0 Ao ((lxTxt u558 to9 no9).1.2.1 0) (lxTxt u558 to9 no9) ++ ftCB9 cI cS p0 Ap ((lxTxt cp9 tp1 np1).1.2.1 0) (lxTxt cp9 tp1 np1))) H := (by rw [← lxO_self hO1]; exact hP)
                  have hD : va_D A ([(t0, .inl (cI, 12, .inl tf9))] ++ (ftCB9 cI cS o0 Ao ((lxTxt u558 to9 no9).1.2.1 0) (lxTxt u558 to9 no9) ++ ftCB9 cI cS p0 Ap ((lxTxt cp9 tp1 np1).1.2.1 0) (lxTxt cp9 tp1 np1))) := (by rw [← lxO_self hO1]; exact hD)
                  have hOc : ∀ (ty : Nat → Int32) (tm : Nat), tm ≤ 120 → lxO k (lxTxt u558 ty tm) (ftLayW w mo) (ftPush w z hm) (min (hm + 1) 5) ty tm := fun _ _ h9 => lxO_txt hO1 h9
                  subst hr558
                  refine ft_top (y := nI N9) (by rw [hcn9, hke]) ?_
                  refine lv_iload hx hb dL_isTold_561 (lv_at hl 5 rfl) ?_
                  refine lv_icmp_ne (tgt := 589) hx hb dL_isTold_563 (by decide) (fun c563 => ?_) (fun c563 => ?_)
                  · have c563n : N9 ≠ N9 := ft_neN (by omega) (by omega) c563
                    exact absurd rfl c563
                  · have c563n : N9 = N9 := ft_eqN (by omega) (by omega) c563
                    refine lv_aload_n hx hb dL_isTold_566 rfl (lv_at hl 1 rfl) ?_
                    refine lv_bipush (v := 14) hx hb dL_isTold_567 (by decide) ?_
                    refine ft_callB (X := (ftCB9 cI cS p0 Ap ((lxTxt cp9 tp1 np1).1.2.1 0) (lxTxt cp9 tp1 np1))) (Y := ([(t0, .inl (cI, 12, .inl tf9))] ++ ftCB9 cI cS o0 Ao ((lxTxt u558 to9 no9).1.2.1 0) (lxTxt u558 to9 no9))) (X1 := fun (u569 : ftCdT) => (ftCB9 cI cS p0 Ap (u569.1.2.1 0) u569)) (ws1 := fun (u569 : ftCdT) => ([(t0, .inl (cI, 12, .inl tf9))] ++ (ftCB9 cI cS o0 Ao ((lxTxt u558 to9 no9).1.2.1 0) (lxTxt u558 to9 no9) ++ ftCB9 cI cS p0 Ap (u569.1.2.1 0) u569))) (va_runV (C := RX10) (As := [.int 14]) (rest := []) ⟨hx, hb, hml, hown, hts⟩ (ep_count l D cI cS H.size sK sV p0 Ap (lxTxt cp9 tp1 np1) wp9 tp1 np1 14 (hQc _ _ (by omega)) ⟨14, by omega, by omega, rfl⟩) (cwV 1 hts gL_isTold_X10_count rfl rfl rfl (by decide +kernel) ⟨Nat.le_of_ble_eq_true rfl, Nat.le_of_ble_eq_true rfl⟩) (ft_preB (ci := 10) (ft_pm3 _ _ _) hP hD hKK hSt hS hA rfl rfl) rfl rfl hl.1 rfl (lv_room (Nat.le_of_ble_eq_true rfl)) dL_isTold_569 ⟨Nat.le_of_ble_eq_true rfl, Nat.le_of_ble_eq_true rfl⟩) hP hD hS hA (ft_pm3 _ _ _) (fun _ => (List.Perm.symm (ft_pm3 _ _ _))) (fun r569 u569 h569 H locs hP hD hS => ?_)
                    have hP : va_P D vwCl ([(t0, .inl (cI, 12, .inl tf9))] ++ (ftCB9 cI cS o0 Ao ((lxTxt u558 to9 no9).1.2.1 0) (lxTxt u558 to9 no9) ++ ftCB9 cI cS p0 Ap (u569.1.2.1 0) u569)) H := hP
                    have hD : va_D A ([(t0, .inl (cI, 12, .inl tf9))] ++ (ftCB9 cI cS o0 Ao ((lxTxt u558 to9 no9).1.2.1 0) (lxTxt u558 to9 no9) ++ ftCB9 cI cS p0 Ap (u569.1.2.1 0) u569)) := hD
                    obtain ⟨hr569, hu569⟩ := h569
                    rw [hu569] at hP hD
                    have hP : va_P D vwCl ([(t0, .inl (cI, 12, .inl tf9))] ++ (ftCB9 cI cS o0 Ao ((lxTxt u558 to9 no9).1.2.1 0) (lxTxt u558 to9 no9) ++ ftCB9 cI cS p0 Ap ((lxTxt cp9 tp1 np1).1.2.1 0) (lxTxt cp9 tp1 np1))) H := hP
                    have hD : va_D A ([(t0, .inl (cI, 12, .inl tf9))] ++ (ftCB9 cI cS o0 Ao ((lxTxt u558 to9 no9).1.2.1 0) (lxTxt u558 to9 no9) ++ ftCB9 cI cS p0 Ap ((lxTxt cp9 tp1 np1).1.2.1 0) (lxTxt cp9 tp1 np1))) := hD
                    refine lv_iload hx hb dL_isTold_572 (lv_at hl 5 rfl) ?_
                    refine lv_icmp_ne (tgt := 589) hx hb dL_isTold_574 (by decide) (fun c574 => ?_) (fun c574 => ?_)
                    · exact absurd (((hr569 0 0).trans (lxCnt_14 (lxQ_W (hQc (fun _ => 0) 0 (by omega))))).trans (by rw [hcw, hke])) c574
                    · have hQ9 := lxQ_row (v := ftLayW w mo) (hQc tp1 np1 (by omega)) hfp (lxO_W (hOc (fun _ => 0) 0 (by omega))) (fun t ht => (ftLay_at (by omega) (by omega)).trans (hEq9 t (by omega)).symm) (fun j hj => (ftLay_hi (by omega)).trans ((hF j hj).trans (hset9 j hj).symm))
                      refine lv_aload_n hx hb dL_isTold_577 rfl (lv_at hl 0 rfl) ?_
                      refine lv_aload_n hx hb dL_isTold_578 rfl (lv_at hl 1 rfl) ?_
                      refine ft_callB (X := (ftCB9 cI cS o0 Ao ((lxTxt u558 to9 no9).1.2.1 0) (lxTxt u558 to9 no9) ++ ftCB9 cI cS p0 Ap ((lxTxt cp9 tp1 np1).1.2.1 0) (lxTxt cp9 tp1 np1))) (Y := [(t0, .inl (cI, 12, .inl tf9))]) (X1 := fun (u579 : ftCdT × ftCdT) => (ftCB9 cI cS o0 Ao (u579.1.1.2.1 0) u579.1 ++ ftCB9 cI cS p0 Ap (u579.2.1.2.1 0) u579.2)) (ws1 := fun (u579 : ftCdT × ftCdT) => ([(t0, .inl (cI, 12, .inl tf9))] ++ (ftCB9 cI cS o0 Ao (u579.1.1.2.1 0) u579.1 ++ ftCB9 cI cS p0 Ap (u579.2.1.2.1 0) u579.2))) (va_runS (As := [.ref o0, .ref p0]) (rest := []) ⟨hx, hb, hml, hown, hts⟩ (c_L_areAlike l D cI cS H.size sK sV o0 p0 Ao Ap (lxTxt u558 to9 no9) (lxTxt cp9 tp1 np1) k (ftLayW w mo) (ftPush w z hm) (min (hm + 1) 5) to9 no9 tp1 np1 (by omega) (hOc _ _ (by omega)) hQ9) (va_cwS 2 hts gL_isTold_L_areAlike rfl rfl rfl (by decide +kernel) ⟨Nat.le_of_ble_eq_true rfl, Nat.le_of_ble_eq_true rfl⟩) (ft_preBS List.perm_append_comm hP hD hKK hSt hS hA) rfl rfl hl.1 rfl (lv_room (Nat.le_of_ble_eq_true rfl)) dL_isTold_579 ⟨Nat.le_of_ble_eq_true rfl, Nat.le_of_ble_eq_true rfl⟩) hP hD hS hA List.perm_append_comm (fun _ => (List.Perm.symm List.perm_append_comm)) (fun r579 u579 h579 H locs hP hD hS => ?_)
                      have hP : va_P D vwCl ([(t0, .inl (cI, 12, .inl tf9))] ++ (ftCB9 cI cS o0 Ao (u579.1.1.2.1 0) u579.1 ++ ftCB9 cI cS p0 Ap (u579.2.1.2.1 0) u579.2)) H := hP
                      have hD : va_D A ([(t0, .inl (cI, 12, .inl tf9))] ++ (ftCB9 cI cS o0 Ao (u579.1.1.2.1 0) u579.1 ++ ftCB9 cI cS p0 Ap (u579.2.1.2.1 0) u579.2)) := hD
                      obtain ⟨hr579, hO1, hQ1⟩ := h579
                      subst hr579
                      have hP : va_P D vwCl ([(t0, .inl (cI, 12, .inl tf9))] ++ (ftCB9 cI cS o0 Ao ((lxTxt u579.1 to9 no9).1.2.1 0) (lxTxt u579.1 to9 no9) ++ ftCB9 cI cS p0 Ap ((lxTxt u579.2 tp1 np1).1.2.1 0) (lxTxt u579.2 tp1 np1))) H := by rw [← lxO_self hO1, ← lxQ_self hQ1]; exact hP
                      have hD : va_D A ([(t0, .inl (cI, 12, .inl tf9))] ++ (ftCB9 cI cS o0 Ao ((lxTxt u579.1 to9 no9).1.2.1 0) (lxTxt u579.1 to9 no9) ++ ftCB9 cI cS p0 Ap ((lxTxt u579.2 tp1 np1).1.2.1 0) (lxTxt u579.2 tp1 np1))) := by rw [← lxO_self hO1, ← lxQ_self hQ1]; exact hD
                      have hOc : ∀ (ty : Nat → Int32) (tm : Nat), tm ≤ 120 → lxO k (lxTxt u579.1 ty tm) (ftLayW w mo) (ftPush w z hm) (min (hm + 1) 5) ty tm := fun _ _ h9 => lxO_txt hO1 h9
                      have hQc : ∀ (ty : Nat → Int32) (tm : Nat), tm ≤ 120 → lxQ (lxTxt u579.2 ty tm) (ftLayW w mo) ty tm := fun _ _ h9 => lxQ_txt hQ1 h9
                      refine lv_if_eq (tgt := 589) hx hb dL_isTold_582 (by decide) (fun c582 => ?_) (fun c582 => ?_)
                      · exact absurd c582 (by decide)
                      · refine lv_iconst (v := 1) hx hb dL_isTold_585 (by decide) ?_
                        refine lv_goto (tgt := 590) hx hb dL_isTold_586 (by decide) ?_
                        refine lv_istore (lv' := [(7, .int 1), (0, .ref o0), (1, .ref p0), (2, .ref t0), (3, .int (nI C)), (4, .int (nI V)), (5, .int (nI N9)), (6, .int (nI LN)), (8, .int (nI kk))]) hx hb dL_isTold_590 hl (by decide) rfl (fun ls hl => ?_)
                        have hF1 : ∀ j, j < 11 → ftLayW w mo (44 + j) = ftW0 (44 + j) := fun j hj => (ftLay_hi (by omega)).trans (hF j hj)
                        have hcl9 : ftCN (ftLayW w mo) < 9 := by rw [ftLay_n (by omega)]; omega
                        refine lv_aload_n hx hb dL_isTold_592 rfl (lv_at hl 1 rfl) ?_
                        refine lv_bipush (v := 18) hx hb dL_isTold_593 (by decide) ?_
                        refine ft_callB (X := (ftCB9 cI cS o0 Ao ((lxTxt u579.1 to9 no9).1.2.1 0) (lxTxt u579.1 to9 no9))) (Y := ([(t0, .inl (cI, 12, .inl tf9))] ++ ftCB9 cI cS p0 Ap ((lxTxt u579.2 tp1 np1).1.2.1 0) (lxTxt u579.2 tp1 np1))) (X1 := fun (u595 : ftCdT) => (ftCB9 cI cS o0 Ao (u595.1.2.1 0) u595)) (ws1 := fun (u595 : ftCdT) => ([(t0, .inl (cI, 12, .inl tf9))] ++ (ftCB9 cI cS o0 Ao (u595.1.2.1 0) u595 ++ ftCB9 cI cS p0 Ap ((lxTxt u579.2 tp1 np1).1.2.1 0) (lxTxt u579.2 tp1 np1)))) (va_runV (C := RX10) (As := [.int 18]) (rest := []) ⟨hx, hb, hml, hown, hts⟩ (eo_count l D cI cS H.size sK sV o0 Ao (lxTxt u579.1 to9 no9) k (ftLayW w mo) (ftPush w z hm) (min (hm + 1) 5) to9 no9 18 (by omega) (hOc _ _ (by omega))) (cwV 1 hts gL_isTold_X10_count rfl rfl rfl (by decide +kernel) ⟨Nat.le_of_ble_eq_true rfl, Nat.le_of_ble_eq_true rfl⟩) (ft_preB (ci := 10) (List.perm_append_comm_assoc _ _ _) hP hD hKK hSt hS hA rfl rfl) rfl rfl hl.1 rfl (lv_room (Nat.le_of_ble_eq_true rfl)) dL_isTold_595 ⟨Nat.le_of_ble_eq_true rfl, Nat.le_of_ble_eq_true rfl⟩) hP hD hS hA (List.perm_append_comm_assoc _ _ _) (fun _ => (List.Perm.symm (List.perm_append_comm_assoc _ _ _))) (fun r595 u595 h595 H locs hP hD hS => ?_)
                        have hP : va_P D vwCl ([(t0, .inl (cI, 12, .inl tf9))] ++ (ftCB9 cI cS o0 Ao (u595.1.2.1 0) u595 ++ ftCB9 cI cS p0 Ap ((lxTxt u579.2 tp1 np1).1.2.1 0) (lxTxt u579.2 tp1 np1))) H := hP
                        have hD : va_D A ([(t0, .inl (cI, 12, .inl tf9))] ++ (ftCB9 cI cS o0 Ao (u595.1.2.1 0) u595 ++ ftCB9 cI cS p0 Ap ((lxTxt u579.2 tp1 np1).1.2.1 0) (lxTxt u579.2 tp1 np1))) := hD
                        obtain ⟨hr595, hO1⟩ := h595
                        have hP : va_P D vwCl ([(t0, .inl (cI, 12, .inl tf9))] ++ (ftCB9 cI cS o0 Ao ((lxTxt u595 to9 no9).1.2.1 0) (lxTxt u595 to9 no9) ++ ftCB9 cI cS p0 Ap ((lxTxt u579.2 tp1 np1).1.2.1 0) (lxTxt u579.2 tp1 np1))) H := (by rw [← lxO_self hO1]; exact hP)
                        have hD : va_D A ([(t0, .inl (cI, 12, .inl tf9))] ++ (ftCB9 cI cS o0 Ao ((lxTxt u595 to9 no9).1.2.1 0) (lxTxt u595 to9 no9) ++ ftCB9 cI cS p0 Ap ((lxTxt u579.2 tp1 np1).1.2.1 0) (lxTxt u579.2 tp1 np1))) := (by rw [← lxO_self hO1]; exact hD)
                        have hOc : ∀ (ty : Nat → Int32) (tm : Nat), tm ≤ 120 → lxO k (lxTxt u595 ty tm) (ftLayW w mo) (ftPush w z hm) (min (hm + 1) 5) ty tm := fun _ _ h9 => lxO_txt hO1 h9
                        subst hr595
                        refine ft_top (y := nI no9) lxCnt_18 ?_
                        refine lv_istore (lv' := [(8, .int (nI no9)), (7, .int 1), (0, .ref o0), (1, .ref p0), (2, .ref t0), (3, .int (nI C)), (4, .int (nI V)), (5, .int (nI N9)), (6, .int (nI LN))]) hx hb dL_isTold_598 hl (by decide) rfl (fun ls hl => ?_)
                        refine lv_iload hx hb dL_isTold_600 (lv_at hl 0 rfl) ?_
                        refine lv_bipush (v := 90) hx hb dL_isTold_602 (by decide) ?_
                        refine lv_icmp_ge (tgt := 744) hx hb dL_isTold_604 (by decide) (fun c604 => ?_) (fun c604 => ?_)
                        · have c604n : 90 ≤ no9 := ft_leN (by omega) (by omega) c604
                          refine lv_iload hx hb dL_isTold_744 (lv_at hl 1 rfl) ?_
                          obtain ⟨u9, hu9⟩ : ∃ u9 : ftCdT × ftCdT × (Nat → Int32), u9 = ((lxTxt u595 to9 no9), (lxTxt u579.2 tp1 np1), tf9) := ⟨_, rfl⟩
                          have hw9 : (([(t0, .inl (cI, 12, .inl tf9))] ++ (ftCB9 cI cS o0 Ao ((lxTxt u595 to9 no9).1.2.1 0) (lxTxt u595 to9 no9) ++ ftCB9 cI cS p0 Ap ((lxTxt u579.2 tp1 np1).1.2.1 0) (lxTxt u579.2 tp1 np1))) : va_W) = ([(t0, .inl (cI, 12, .inl u9.2.2))] ++ (ftCB9 cI cS o0 Ao (u9.1.1.2.1 0) u9.1 ++ ftCB9 cI cS p0 Ap (u9.2.1.1.2.1 0) u9.2.1)) := by subst hu9; rfl
                          rw [hw9] at hP hD
                          have hf9_0 : ∃ w1 z1 h1 t1 n1 wq tq nq x, lxO k u9.1 w1 z1 h1 t1 n1 ∧ lxQ u9.2.1 wq tq nq ∧ (∀ j, j < 11 → w1 (44 + j) = ftW0 (44 + j)) ∧ (∀ j, j < 11 → wq (44 + j) = ftW0 (44 + j)) ∧ lxFr t1 n1 x ∧ (x = 4 ∨ x ≠ 4 ∧ wq = w1 ∧ ftCN w1 < 9) := by rw [hu9]; first | exact ⟨_, _, _, _, _, _, _, _, 3, hOc _ _ (by omega), hQc _ _ (by omega), hF1, hF1, lxFr_F hflC, Or.inr ⟨by decide, rfl, hcl9⟩⟩ | exact ⟨_, _, _, _, _, _, _, _, -1000004, hOc _ _ (by omega), hQc _ _ (by omega), hF1, hF1, lxFr_O (lxG_all hG), Or.inr ⟨by decide, rfl, hcl9⟩⟩
                          have hr9 : (1 : Int32) = 1 := by exact rfl
                          exact W.zret (v := 1) hx hb hr (by rfl) (fun t ht hW => ⟨⟨1, u9, rfl, ⟨hr9, hf9_0⟩, by rw [ht]; exact hP, by rw [hAe]; exact hD⟩, by rw [hAe]; exact hS.F ht⟩) hS.2.2 dL_isTold_746
                        · have c604n : no9 < 90 := ft_nleN (by omega) (by omega) c604
                          refine lv_iload hx hb dL_isTold_607 (lv_at hl 1 rfl) ?_
                          refine lv_if_eq (tgt := 744) hx hb dL_isTold_609 (by decide) (fun c609 => ?_) (fun c609 => ?_)
                          · exact absurd c609 (by decide)
                          · refine lv_aload_n hx hb dL_isTold_612 rfl (lv_at hl 2 rfl) ?_
                            refine lv_ldc2 (v := 126926692377445) hx hb hown (hts (.constantLong RL 60 126926692377445) (by decide +kernel)) dL_isTold_613 ?_
                            refine ft_callBv (X := (ftCB9 cI cS o0 Ao ((lxTxt u595 to9 no9).1.2.1 0) (lxTxt u595 to9 no9))) (Y := ([(t0, .inl (cI, 12, .inl tf9))] ++ ftCB9 cI cS p0 Ap ((lxTxt u579.2 tp1 np1).1.2.1 0) (lxTxt u579.2 tp1 np1))) (X1 := fun (u616 : ftCdT) => (ftCB9 cI cS o0 Ao (u616.1.2.1 0) u616)) (ws1 := fun (u616 : ftCdT) => ([(t0, .inl (cI, 12, .inl tf9))] ++ (ftCB9 cI cS o0 Ao (u616.1.2.1 0) u616 ++ ftCB9 cI cS p0 Ap ((lxTxt u579.2 tp1 np1).1.2.1 0) (lxTxt u579.2 tp1 np1)))) (va_runS (As := [.ref o0, .long 126926692377445]) (rest := []) ⟨hx, hb, hml, hown, hts⟩ (c_L_word l D cI cS H.size sK sV o0 Ao (lxTxt u595 to9 no9) 126926692377445 6 (lxWf 3) lxWd_3 (show no9 + 6 ≤ 120 by omega)) (va_cwS 2 hts gL_isTold_L_word rfl rfl rfl (by decide +kernel) ⟨Nat.le_of_ble_eq_true rfl, Nat.le_of_ble_eq_true rfl⟩) (ft_preBS (List.perm_append_comm_assoc _ _ _) hP hD hKK hSt hS hA) rfl rfl hl.1 rfl (lv_room (Nat.le_of_ble_eq_true rfl)) dL_isTold_616 ⟨Nat.le_of_ble_eq_true rfl, Nat.le_of_ble_eq_true rfl⟩) hP hD hS hA (List.perm_append_comm_assoc _ _ _) (fun _ => (List.Perm.symm (List.perm_append_comm_assoc _ _ _))) (fun u616 h616 H locs hP hD hS => ?_)
                            have hP : va_P D vwCl ([(t0, .inl (cI, 12, .inl tf9))] ++ (ftCB9 cI cS o0 Ao (u616.1.2.1 0) u616 ++ ftCB9 cI cS p0 Ap ((lxTxt u579.2 tp1 np1).1.2.1 0) (lxTxt u579.2 tp1 np1))) H := hP
                            have hD : va_D A ([(t0, .inl (cI, 12, .inl tf9))] ++ (ftCB9 cI cS o0 Ao (u616.1.2.1 0) u616 ++ ftCB9 cI cS p0 Ap ((lxTxt u579.2 tp1 np1).1.2.1 0) (lxTxt u579.2 tp1 np1))) := hD
                            have hu616 := h616
                            subst hu616
                            have hP : va_P D vwCl ([(t0, .inl (cI, 12, .inl tf9))] ++ (ftCB9 cI cS o0 Ao ((lxTxt u595 (lxTy (lxWf 3) to9 no9 6) (no9 + 6)).1.2.1 0) (lxTxt u595 (lxTy (lxWf 3) to9 no9 6) (no9 + 6)) ++ ftCB9 cI cS p0 Ap ((lxTxt u579.2 tp1 np1).1.2.1 0) (lxTxt u579.2 tp1 np1))) H := hP
                            have hD : va_D A ([(t0, .inl (cI, 12, .inl tf9))] ++ (ftCB9 cI cS o0 Ao ((lxTxt u595 (lxTy (lxWf 3) to9 no9 6) (no9 + 6)).1.2.1 0) (lxTxt u595 (lxTy (lxWf 3) to9 no9 6) (no9 + 6)) ++ ftCB9 cI cS p0 Ap ((lxTxt u579.2 tp1 np1).1.2.1 0) (lxTxt u579.2 tp1 np1))) := hD
                            have hGA : lxG (lxTy (lxWf 3) to9 no9 6) K7 no9 h7 mo := lxG_mono hG (fun t ht => lxTy_lo ht)
                            have hflA : ftCPar (lxTy (lxWf 3) to9 no9 6) (no9 + 6) = none ∧ ∀ rs pl nu, ftFx (lxTy (lxWf 3) to9 no9 6) (no9 + 6) rs pl nu → rs = 2 ∧ pl = nI no9 ∧ nu = nI (0 + 1) := lx_fl2 hGA (j := 3) (by omega) (M := 0) (by decide) (lx_it0 (tx := to9) (p := no9) (j := 3)).1 rfl
                            refine lv_aload_n hx hb dL_isTold_619 rfl (lv_at hl 2 rfl) ?_
                            refine lv_iconst (v := 0) hx hb dL_isTold_620 (by decide) ?_
                            refine ft_callB (X := (ftCB9 cI cS o0 Ao ((lxTxt u595 (lxTy (lxWf 3) to9 no9 6) (no9 + 6)).1.2.1 0) (lxTxt u595 (lxTy (lxWf 3) to9 no9 6) (no9 + 6)))) (Y := ([(t0, .inl (cI, 12, .inl tf9))] ++ ftCB9 cI cS p0 Ap ((lxTxt u579.2 tp1 np1).1.2.1 0) (lxTxt u579.2 tp1 np1))) (X1 := fun (u621 : ftCdT) => (ftCB9 cI cS o0 Ao (u621.1.2.1 0) u621)) (ws1 := fun (u621 : ftCdT) => ([(t0, .inl (cI, 12, .inl tf9))] ++ (ftCB9 cI cS o0 Ao (u621.1.2.1 0) u621 ++ ftCB9 cI cS p0 Ap ((lxTxt u579.2 tp1 np1).1.2.1 0) (lxTxt u579.2 tp1 np1)))) (va_runV (C := RX10) (As := [.int 0]) (rest := []) ⟨hx, hb, hml, hown, hts⟩ (eo_fault l D cI cS H.size sK sV o0 Ao (lxTxt u595 (lxTy (lxWf 3) to9 no9 6) (no9 + 6)) k (ftLayW w mo) (ftPush w z hm) (min (hm + 1) 5) (lxTy (lxWf 3) to9 no9 6) (no9 + 6) 0 (by omega) (hOc _ _ (by omega))) (cwV 1 hts gL_isTold_X10_fault rfl rfl rfl (by decide +kernel) ⟨Nat.le_of_ble_eq_true rfl, Nat.le_of_ble_eq_true rfl⟩) (ft_preB (ci := 10) (List.perm_append_comm_assoc _ _ _) hP hD hKK hSt hS hA rfl rfl) rfl rfl hl.1 rfl (lv_room (Nat.le_of_ble_eq_true rfl)) dL_isTold_621 ⟨Nat.le_of_ble_eq_true rfl, Nat.le_of_ble_eq_true rfl⟩) hP hD hS hA (List.perm_append_comm_assoc _ _ _) (fun _ => (List.Perm.symm (List.perm_append_comm_assoc _ _ _))) (fun r621 u621 h621 H locs hP hD hS => ?_)
                            have hP : va_P D vwCl ([(t0, .inl (cI, 12, .inl tf9))] ++ (ftCB9 cI cS o0 Ao (u621.1.2.1 0) u621 ++ ftCB9 cI cS p0 Ap ((lxTxt u579.2 tp1 np1).1.2.1 0) (lxTxt u579.2 tp1 np1))) H := hP
                            have hD : va_D A ([(t0, .inl (cI, 12, .inl tf9))] ++ (ftCB9 cI cS o0 Ao (u621.1.2.1 0) u621 ++ ftCB9 cI cS p0 Ap ((lxTxt u579.2 tp1 np1).1.2.1 0) (lxTxt u579.2 tp1 np1))) := hD
                            obtain ⟨hr621, hO1⟩ := h621
                            have hP : va_P D vwCl ([(t0, .inl (cI, 12, .inl tf9))] ++ (ftCB9 cI cS o0 Ao ((lxTxt u621 (lxTy (lxWf 3) to9 no9 6) (no9 + 6)).1.2.1 0) (lxTxt u621 (lxTy (lxWf 3) to9 no9 6) (no9 + 6)) ++ ftCB9 cI cS p0 Ap ((lxTxt u579.2 tp1 np1).1.2.1 0) (lxTxt u579.2 tp1 np1))) H := (by rw [← lxO_self hO1]; exact hP)
                            have hD : va_D A ([(t0, .inl (cI, 12, .inl tf9))] ++ (ftCB9 cI cS o0 Ao ((lxTxt u621 (lxTy (lxWf 3) to9 no9 6) (no9 + 6)).1.2.1 0) (lxTxt u621 (lxTy (lxWf 3) to9 no9 6) (no9 + 6)) ++ ftCB9 cI cS p0 Ap ((lxTxt u579.2 tp1 np1).1.2.1 0) (lxTxt u579.2 tp1 np1))) := (by rw [← lxO_self hO1]; exact hD)
                            have hOc : ∀ (ty : Nat → Int32) (tm : Nat), tm ≤ 120 → lxO k (lxTxt u621 ty tm) (ftLayW w mo) (ftPush w z hm) (min (hm + 1) 5) ty tm := fun _ _ h9 => lxO_txt hO1 h9
                            have e621 : r621 = nI no9 := lx_fa0 hr621 hflA
                            subst e621
                            refine lv_iload hx hb dL_isTold_624 (lv_at hl 0 rfl) ?_
                            refine lv_icmp_ne (tgt := 651) hx hb dL_isTold_626 (by decide) (fun c626 => ?_) (fun c626 => ?_)
                            · have c626n : no9 ≠ no9 := ft_neN (by omega) (by omega) c626
                              exact absurd rfl c626
                            · have c626n : no9 = no9 := ft_eqN (by omega) (by omega) c626
                              refine lv_aload_n hx hb dL_isTold_629 rfl (lv_at hl 2 rfl) ?_
                              refine lv_iconst (v := 1) hx hb dL_isTold_630 (by decide) ?_
                              refine ft_callB (X := (ftCB9 cI cS o0 Ao ((lxTxt u621 (lxTy (lxWf 3) to9 no9 6) (no9 + 6)).1.2.1 0) (lxTxt u621 (lxTy (lxWf 3) to9 no9 6) (no9 + 6)))) (Y := ([(t0, .inl (cI, 12, .inl tf9))] ++ ftCB9 cI cS p0 Ap ((lxTxt u579.2 tp1 np1).1.2.1 0) (lxTxt u579.2 tp1 np1))) (X1 := fun (u631 : ftCdT) => (ftCB9 cI cS o0 Ao (u631.1.2.1 0) u631)) (ws1 := fun (u631 : ftCdT) => ([(t0, .inl (cI, 12, .inl tf9))] ++ (ftCB9 cI cS o0 Ao (u631.1.2.1 0) u631 ++ ftCB9 cI cS p0 Ap ((lxTxt u579.2 tp1 np1).1.2.1 0) (lxTxt u579.2 tp1 np1)))) (va_runV (C := RX10) (As := [.int 1]) (rest := []) ⟨hx, hb, hml, hown, hts⟩ (eo_fault l D cI cS H.size sK sV o0 Ao (lxTxt u621 (lxTy (lxWf 3) to9 no9 6) (no9 + 6)) k (ftLayW w mo) (ftPush w z hm) (min (hm + 1) 5) (lxTy (lxWf 3) to9 no9 6) (no9 + 6) 1 (by omega) (hOc _ _ (by omega))) (cwV 1 hts gL_isTold_X10_fault rfl rfl rfl (by decide +kernel) ⟨Nat.le_of_ble_eq_true rfl, Nat.le_of_ble_eq_true rfl⟩) (ft_preB (ci := 10) (List.perm_append_comm_assoc _ _ _) hP hD hKK hSt hS hA rfl rfl) rfl rfl hl.1 rfl (lv_room (Nat.le_of_ble_eq_true rfl)) dL_isTold_631 ⟨Nat.le_of_ble_eq_true rfl, Nat.le_of_ble_eq_true rfl⟩) hP hD hS hA (List.perm_append_comm_assoc _ _ _) (fun _ => (List.Perm.symm (List.perm_append_comm_assoc _ _ _))) (fun r631 u631 h631 H locs hP hD hS => ?_)
                              have hP : va_P D vwCl ([(t0, .inl (cI, 12, .inl tf9))] ++ (ftCB9 cI cS o0 Ao (u631.1.2.1 0) u631 ++ ftCB9 cI cS p0 Ap ((lxTxt u579.2 tp1 np1).1.2.1 0) (lxTxt u579.2 tp1 np1))) H := hP
                              have hD : va_D A ([(t0, .inl (cI, 12, .inl tf9))] ++ (ftCB9 cI cS o0 Ao (u631.1.2.1 0) u631 ++ ftCB9 cI cS p0 Ap ((lxTxt u579.2 tp1 np1).1.2.1 0) (lxTxt u579.2 tp1 np1))) := hD
                              obtain ⟨hr631, hO1⟩ := h631
                              have hP : va_P D vwCl ([(t0, .inl (cI, 12, .inl tf9))] ++ (ftCB9 cI cS o0 Ao ((lxTxt u631 (lxTy (lxWf 3) to9 no9 6) (no9 + 6)).1.2.1 0) (lxTxt u631 (lxTy (lxWf 3) to9 no9 6) (no9 + 6)) ++ ftCB9 cI cS p0 Ap ((lxTxt u579.2 tp1 np1).1.2.1 0) (lxTxt u579.2 tp1 np1))) H := (by rw [← lxO_self hO1]; exact hP)
                              have hD : va_D A ([(t0, .inl (cI, 12, .inl tf9))] ++ (ftCB9 cI cS o0 Ao ((lxTxt u631 (lxTy (lxWf 3) to9 no9 6) (no9 + 6)).1.2.1 0) (lxTxt u631 (lxTy (lxWf 3) to9 no9 6) (no9 + 6)) ++ ftCB9 cI cS p0 Ap ((lxTxt u579.2 tp1 np1).1.2.1 0) (lxTxt u579.2 tp1 np1))) := (by rw [← lxO_self hO1]; exact hD)
                              have hOc : ∀ (ty : Nat → Int32) (tm : Nat), tm ≤ 120 → lxO k (lxTxt u631 ty tm) (ftLayW w mo) (ftPush w z hm) (min (hm + 1) 5) ty tm := fun _ _ h9 => lxO_txt hO1 h9
                              have e631 : r631 = 2 := lx_fa1 hr631 hflA
                              subst e631
                              refine lv_iconst (v := 2) hx hb dL_isTold_634 (by decide) ?_
                              refine lv_icmp_ne (tgt := 651) hx hb dL_isTold_635 (by decide) (fun c635 => ?_) (fun c635 => ?_)
                              · exact absurd (by decide) c635
                              · refine lv_aload_n hx hb dL_isTold_638 rfl (lv_at hl 2 rfl) ?_
                                refine lv_iconst (v := 2) hx hb dL_isTold_639 (by decide) ?_
                                refine ft_callB (X := (ftCB9 cI cS o0 Ao ((lxTxt u631 (lxTy (lxWf 3) to9 no9 6) (no9 + 6)).1.2.1 0) (lxTxt u631 (lxTy (lxWf 3) to9 no9 6) (no9 + 6)))) (Y := ([(t0, .inl (cI, 12, .inl tf9))] ++ ftCB9 cI cS p0 Ap ((lxTxt u579.2 tp1 np1).1.2.1 0) (lxTxt u579.2 tp1 np1))) (X1 := fun (u640 : ftCdT) => (ftCB9 cI cS o0 Ao (u640.1.2.1 0) u640)) (ws1 := fun (u640 : ftCdT) => ([(t0, .inl (cI, 12, .inl tf9))] ++ (ftCB9 cI cS o0 Ao (u640.1.2.1 0) u640 ++ ftCB9 cI cS p0 Ap ((lxTxt u579.2 tp1 np1).1.2.1 0) (lxTxt u579.2 tp1 np1)))) (va_runV (C := RX10) (As := [.int 2]) (rest := []) ⟨hx, hb, hml, hown, hts⟩ (eo_fault l D cI cS H.size sK sV o0 Ao (lxTxt u631 (lxTy (lxWf 3) to9 no9 6) (no9 + 6)) k (ftLayW w mo) (ftPush w z hm) (min (hm + 1) 5) (lxTy (lxWf 3) to9 no9 6) (no9 + 6) 2 (by omega) (hOc _ _ (by omega))) (cwV 1 hts gL_isTold_X10_fault rfl rfl rfl (by decide +kernel) ⟨Nat.le_of_ble_eq_true rfl, Nat.le_of_ble_eq_true rfl⟩) (ft_preB (ci := 10) (List.perm_append_comm_assoc _ _ _) hP hD hKK hSt hS hA rfl rfl) rfl rfl hl.1 rfl (lv_room (Nat.le_of_ble_eq_true rfl)) dL_isTold_640 ⟨Nat.le_of_ble_eq_true rfl, Nat.le_of_ble_eq_true rfl⟩) hP hD hS hA (List.perm_append_comm_assoc _ _ _) (fun _ => (List.Perm.symm (List.perm_append_comm_assoc _ _ _))) (fun r640 u640 h640 H locs hP hD hS => ?_)
                                have hP : va_P D vwCl ([(t0, .inl (cI, 12, .inl tf9))] ++ (ftCB9 cI cS o0 Ao (u640.1.2.1 0) u640 ++ ftCB9 cI cS p0 Ap ((lxTxt u579.2 tp1 np1).1.2.1 0) (lxTxt u579.2 tp1 np1))) H := hP
                                have hD : va_D A ([(t0, .inl (cI, 12, .inl tf9))] ++ (ftCB9 cI cS o0 Ao (u640.1.2.1 0) u640 ++ ftCB9 cI cS p0 Ap ((lxTxt u579.2 tp1 np1).1.2.1 0) (lxTxt u579.2 tp1 np1))) := hD
                                obtain ⟨hr640, hO1⟩ := h640
                                have hP : va_P D vwCl ([(t0, .inl (cI, 12, .inl tf9))] ++ (ftCB9 cI cS o0 Ao ((lxTxt u640 (lxTy (lxWf 3) to9 no9 6) (no9 + 6)).1.2.1 0) (lxTxt u640 (lxTy (lxWf 3) to9 no9 6) (no9 + 6)) ++ ftCB9 cI cS p0 Ap ((lxTxt u579.2 tp1 np1).1.2.1 0) (lxTxt u579.2 tp1 np1))) H := (by rw [← lxO_self hO1]; exact hP)
                                have hD : va_D A ([(t0, .inl (cI, 12, .inl tf9))] ++ (ftCB9 cI cS o0 Ao ((lxTxt u640 (lxTy (lxWf 3) to9 no9 6) (no9 + 6)).1.2.1 0) (lxTxt u640 (lxTy (lxWf 3) to9 no9 6) (no9 + 6)) ++ ftCB9 cI cS p0 Ap ((lxTxt u579.2 tp1 np1).1.2.1 0) (lxTxt u579.2 tp1 np1))) := (by rw [← lxO_self hO1]; exact hD)
                                have hOc : ∀ (ty : Nat → Int32) (tm : Nat), tm ≤ 120 → lxO k (lxTxt u640 ty tm) (ftLayW w mo) (ftPush w z hm) (min (hm + 1) 5) ty tm := fun _ _ h9 => lxO_txt hO1 h9
                                have e640 : r640 = 1 := lx_fa2 hr640 hflA
                                subst e640
                                refine lv_iconst (v := 1) hx hb dL_isTold_643 (by decide) ?_
                                refine lv_icmp_ne (tgt := 651) hx hb dL_isTold_644 (by decide) (fun c644 => ?_) (fun c644 => ?_)
                                · exact absurd (by decide) c644
                                · refine lv_iconst (v := 1) hx hb dL_isTold_647 (by decide) ?_
                                  refine lv_goto (tgt := 652) hx hb dL_isTold_648 (by decide) ?_
                                  refine lv_istore (lv' := [(7, .int 1), (8, .int (nI no9)), (0, .ref o0), (1, .ref p0), (2, .ref t0), (3, .int (nI C)), (4, .int (nI V)), (5, .int (nI N9)), (6, .int (nI LN))]) hx hb dL_isTold_652 hl (by decide) rfl (fun ls hl => ?_)
                                  refine lv_aload_n hx hb dL_isTold_654 rfl (lv_at hl 2 rfl) ?_
                                  refine lv_iload hx hb dL_isTold_655 (lv_at hl 8 rfl) ?_
                                  refine ft_callBv (X := (ftCB9 cI cS o0 Ao ((lxTxt u640 (lxTy (lxWf 3) to9 no9 6) (no9 + 6)).1.2.1 0) (lxTxt u640 (lxTy (lxWf 3) to9 no9 6) (no9 + 6)))) (Y := ([(t0, .inl (cI, 12, .inl tf9))] ++ ftCB9 cI cS p0 Ap ((lxTxt u579.2 tp1 np1).1.2.1 0) (lxTxt u579.2 tp1 np1))) (X1 := fun (u657 : ftCdT) => (ftCB9 cI cS o0 Ao (u657.1.2.1 0) u657)) (ws1 := fun (u657 : ftCdT) => ([(t0, .inl (cI, 12, .inl tf9))] ++ (ftCB9 cI cS o0 Ao (u657.1.2.1 0) u657 ++ ftCB9 cI cS p0 Ap ((lxTxt u579.2 tp1 np1).1.2.1 0) (lxTxt u579.2 tp1 np1)))) (va_runS (As := [.ref o0, .int (nI LN)]) (rest := []) ⟨hx, hb, hml, hown, hts⟩ (c_L_numberP l D cI cS H.size sK sV o0 Ao (lxTxt u640 (lxTy (lxWf 3) to9 no9 6) (no9 + 6)) LN (by omega) (show no9 + 6 + 7 ≤ 120 by omega)) (va_cwS 2 hts gL_isTold_L_number rfl rfl rfl (by decide +kernel) ⟨Nat.le_of_ble_eq_true rfl, Nat.le_of_ble_eq_true rfl⟩) (ft_preBS (List.perm_append_comm_assoc _ _ _) hP hD hKK hSt hS hA) rfl rfl hl.1 rfl (lv_room (Nat.le_of_ble_eq_true rfl)) dL_isTold_657 ⟨Nat.le_of_ble_eq_true rfl, Nat.le_of_ble_eq_true rfl⟩) hP hD hS hA (List.perm_append_comm_assoc _ _ _) (fun _ => (List.Perm.symm (List.perm_append_comm_assoc _ _ _))) (fun u657 h657 H locs hP hD hS => ?_)
                                  have hP : va_P D vwCl ([(t0, .inl (cI, 12, .inl tf9))] ++ (ftCB9 cI cS o0 Ao (u657.1.2.1 0) u657 ++ ftCB9 cI cS p0 Ap ((lxTxt u579.2 tp1 np1).1.2.1 0) (lxTxt u579.2 tp1 np1))) H := hP
                                  have hD : va_D A ([(t0, .inl (cI, 12, .inl tf9))] ++ (ftCB9 cI cS o0 Ao (u657.1.2.1 0) u657 ++ ftCB9 cI cS p0 Ap ((lxTxt u579.2 tp1 np1).1.2.1 0) (lxTxt u579.2 tp1 np1))) := hD
                                  obtain ⟨d657, t657, hu657, hn657, ha657⟩ := h657
                                  subst hu657
                                  have hP : va_P D vwCl ([(t0, .inl (cI, 12, .inl tf9))] ++ (ftCB9 cI cS o0 Ao ((lxTxt u640 t657 (no9 + 6 + 1 + d657)).1.2.1 0) (lxTxt u640 t657 (no9 + 6 + 1 + d657)) ++ ftCB9 cI cS p0 Ap ((lxTxt u579.2 tp1 np1).1.2.1 0) (lxTxt u579.2 tp1 np1))) H := hP
                                  have hD : va_D A ([(t0, .inl (cI, 12, .inl tf9))] ++ (ftCB9 cI cS o0 Ao ((lxTxt u640 t657 (no9 + 6 + 1 + d657)).1.2.1 0) (lxTxt u640 t657 (no9 + 6 + 1 + d657)) ++ ftCB9 cI cS p0 Ap ((lxTxt u579.2 tp1 np1).1.2.1 0) (lxTxt u579.2 tp1 np1))) := hD
                                  have hn657 : lxN t657 (no9 + 6) 1 d657 LN := hn657
                                  have ha657 : ∀ t, t < no9 + 6 → t657 t = (lxTy (lxWf 3) to9 no9 6) t := ha657
                                  have hd657 : 1 ≤ d657 ∧ d657 ≤ 5 := ⟨hn657.2.2.1, hn657.2.2.2.1⟩
                                  obtain ⟨sB, dB, nB, hiB, heB, hvB⟩ := lx_it1 (j := 3) (p := no9) hn657 ha657
                                  have hGB : lxG t657 K7 no9 h7 mo := lxG_mono hG (fun t ht => (ha657 t (by omega)).trans (lxTy_lo ht))
                                  have hflB : ftCPar t657 (no9 + 6 + 1 + d657) = none ∧ ∀ rs pl nu, ftFx t657 (no9 + 6 + 1 + d657) rs pl nu → rs = 2 ∧ pl = nI no9 ∧ nu = nI (1 + 1) := lx_fl2 hGB (j := 3) (by omega) (M := 1) (by decide) hiB heB
                                  refine lv_iload hx hb dL_isTold_660 (lv_at hl 0 rfl) ?_
                                  refine lv_if_eq (tgt := 687) hx hb dL_isTold_662 (by decide) (fun c662 => ?_) (fun c662 => ?_)
                                  · exact absurd c662 (by decide)
                                  · refine lv_aload_n hx hb dL_isTold_665 rfl (lv_at hl 2 rfl) ?_
                                    refine lv_iconst (v := 1) hx hb dL_isTold_666 (by decide) ?_
                                    refine ft_callB (X := (ftCB9 cI cS o0 Ao ((lxTxt u640 t657 (no9 + 6 + 1 + d657)).1.2.1 0) (lxTxt u640 t657 (no9 + 6 + 1 + d657)))) (Y := ([(t0, .inl (cI, 12, .inl tf9))] ++ ftCB9 cI cS p0 Ap ((lxTxt u579.2 tp1 np1).1.2.1 0) (lxTxt u579.2 tp1 np1))) (X1 := fun (u667 : ftCdT) => (ftCB9 cI cS o0 Ao (u667.1.2.1 0) u667)) (ws1 := fun (u667 : ftCdT) => ([(t0, .inl (cI, 12, .inl tf9))] ++ (ftCB9 cI cS o0 Ao (u667.1.2.1 0) u667 ++ ftCB9 cI cS p0 Ap ((lxTxt u579.2 tp1 np1).1.2.1 0) (lxTxt u579.2 tp1 np1)))) (va_runV (C := RX10) (As := [.int 1]) (rest := []) ⟨hx, hb, hml, hown, hts⟩ (eo_fault l D cI cS H.size sK sV o0 Ao (lxTxt u640 t657 (no9 + 6 + 1 + d657)) k (ftLayW w mo) (ftPush w z hm) (min (hm + 1) 5) t657 (no9 + 6 + 1 + d657) 1 (by omega) (hOc _ _ (by omega))) (cwV 1 hts gL_isTold_X10_fault rfl rfl rfl (by decide +kernel) ⟨Nat.le_of_ble_eq_true rfl, Nat.le_of_ble_eq_true rfl⟩) (ft_preB (ci := 10) (List.perm_append_comm_assoc _ _ _) hP hD hKK hSt hS hA rfl rfl) rfl rfl hl.1 rfl (lv_room (Nat.le_of_ble_eq_true rfl)) dL_isTold_667 ⟨Nat.le_of_ble_eq_true rfl, Nat.le_of_ble_eq_true rfl⟩) hP hD hS hA (List.perm_append_comm_assoc _ _ _) (fun _ => (List.Perm.symm (List.perm_append_comm_assoc _ _ _))) (fun r667 u667 h667 H locs hP hD hS => ?_)
                                    have hP : va_P D vwCl ([(t0, .inl (cI, 12, .inl tf9))] ++ (ftCB9 cI cS o0 Ao (u667.1.2.1 0) u667 ++ ftCB9 cI cS p0 Ap ((lxTxt u579.2 tp1 np1).1.2.1 0) (lxTxt u579.2 tp1 np1))) H := hP
                                    have hD : va_D A ([(t0, .inl (cI, 12, .inl tf9))] ++ (ftCB9 cI cS o0 Ao (u667.1.2.1 0) u667 ++ ftCB9 cI cS p0 Ap ((lxTxt u579.2 tp1 np1).1.2.1 0) (lxTxt u579.2 tp1 np1))) := hD
                                    obtain ⟨hr667, hO1⟩ := h667
                                    have hP : va_P D vwCl ([(t0, .inl (cI, 12, .inl tf9))] ++ (ftCB9 cI cS o0 Ao ((lxTxt u667 t657 (no9 + 6 + 1 + d657)).1.2.1 0) (lxTxt u667 t657 (no9 + 6 + 1 + d657)) ++ ftCB9 cI cS p0 Ap ((lxTxt u579.2 tp1 np1).1.2.1 0) (lxTxt u579.2 tp1 np1))) H := (by rw [← lxO_self hO1]; exact hP)
                                    have hD : va_D A ([(t0, .inl (cI, 12, .inl tf9))] ++ (ftCB9 cI cS o0 Ao ((lxTxt u667 t657 (no9 + 6 + 1 + d657)).1.2.1 0) (lxTxt u667 t657 (no9 + 6 + 1 + d657)) ++ ftCB9 cI cS p0 Ap ((lxTxt u579.2 tp1 np1).1.2.1 0) (lxTxt u579.2 tp1 np1))) := (by rw [← lxO_self hO1]; exact hD)
                                    have hOc : ∀ (ty : Nat → Int32) (tm : Nat), tm ≤ 120 → lxO k (lxTxt u667 ty tm) (ftLayW w mo) (ftPush w z hm) (min (hm + 1) 5) ty tm := fun _ _ h9 => lxO_txt hO1 h9
                                    have e667 : r667 = 2 := lx_fa1 hr667 hflB
                                    subst e667
                                    refine lv_iconst (v := 2) hx hb dL_isTold_670 (by decide) ?_
                                    refine lv_icmp_ne (tgt := 687) hx hb dL_isTold_671 (by decide) (fun c671 => ?_) (fun c671 => ?_)
                                    · exact absurd (by decide) c671
                                    · refine lv_aload_n hx hb dL_isTold_674 rfl (lv_at hl 2 rfl) ?_
                                      refine lv_iconst (v := 2) hx hb dL_isTold_675 (by decide) ?_
                                      refine ft_callB (X := (ftCB9 cI cS o0 Ao ((lxTxt u667 t657 (no9 + 6 + 1 + d657)).1.2.1 0) (lxTxt u667 t657 (no9 + 6 + 1 + d657)))) (Y := ([(t0, .inl (cI, 12, .inl tf9))] ++ ftCB9 cI cS p0 Ap ((lxTxt u579.2 tp1 np1).1.2.1 0) (lxTxt u579.2 tp1 np1))) (X1 := fun (u676 : ftCdT) => (ftCB9 cI cS o0 Ao (u676.1.2.1 0) u676)) (ws1 := fun (u676 : ftCdT) => ([(t0, .inl (cI, 12, .inl tf9))] ++ (ftCB9 cI cS o0 Ao (u676.1.2.1 0) u676 ++ ftCB9 cI cS p0 Ap ((lxTxt u579.2 tp1 np1).1.2.1 0) (lxTxt u579.2 tp1 np1)))) (va_runV (C := RX10) (As := [.int 2]) (rest := []) ⟨hx, hb, hml, hown, hts⟩ (eo_fault l D cI cS H.size sK sV o0 Ao (lxTxt u667 t657 (no9 + 6 + 1 + d657)) k (ftLayW w mo) (ftPush w z hm) (min (hm + 1) 5) t657 (no9 + 6 + 1 + d657) 2 (by omega) (hOc _ _ (by omega))) (cwV 1 hts gL_isTold_X10_fault rfl rfl rfl (by decide +kernel) ⟨Nat.le_of_ble_eq_true rfl, Nat.le_of_ble_eq_true rfl⟩) (ft_preB (ci := 10) (List.perm_append_comm_assoc _ _ _) hP hD hKK hSt hS hA rfl rfl) rfl rfl hl.1 rfl (lv_room (Nat.le_of_ble_eq_true rfl)) dL_isTold_676 ⟨Nat.le_of_ble_eq_true rfl, Nat.le_of_ble_eq_true rfl⟩) hP hD hS hA (List.perm_append_comm_assoc _ _ _) (fun _ => (List.Perm.symm (List.perm_append_comm_assoc _ _ _))) (fun r676 u676 h676 H locs hP hD hS => ?_)
                                      have hP : va_P D vwCl ([(t0, .inl (cI, 12, .inl tf9))] ++ (ftCB9 cI cS o0 Ao (u676.1.2.1 0) u676 ++ ftCB9 cI cS p0 Ap ((lxTxt u579.2 tp1 np1).1.2.1 0) (lxTxt u579.2 tp1 np1))) H := hP
                                      have hD : va_D A ([(t0, .inl (cI, 12, .inl tf9))] ++ (ftCB9 cI cS o0 Ao (u676.1.2.1 0) u676 ++ ftCB9 cI cS p0 Ap ((lxTxt u579.2 tp1 np1).1.2.1 0) (lxTxt u579.2 tp1 np1))) := hD
                                      obtain ⟨hr676, hO1⟩ := h676
                                      have hP : va_P D vwCl ([(t0, .inl (cI, 12, .inl tf9))] ++ (ftCB9 cI cS o0 Ao ((lxTxt u676 t657 (no9 + 6 + 1 + d657)).1.2.1 0) (lxTxt u676 t657 (no9 + 6 + 1 + d657)) ++ ftCB9 cI cS p0 Ap ((lxTxt u579.2 tp1 np1).1.2.1 0) (lxTxt u579.2 tp1 np1))) H := (by rw [← lxO_self hO1]; exact hP)
                                      have hD : va_D A ([(t0, .inl (cI, 12, .inl tf9))] ++ (ftCB9 cI cS o0 Ao ((lxTxt u676 t657 (no9 + 6 + 1 + d657)).1.2.1 0) (lxTxt u676 t657 (no9 + 6 + 1 + d657)) ++ ftCB9 cI cS p0 Ap ((lxTxt u579.2 tp1 np1).1.2.1 0) (lxTxt u579.2 tp1 np1))) := (by rw [← lxO_self hO1]; exact hD)
                                      have hOc : ∀ (ty : Nat → Int32) (tm : Nat), tm ≤ 120 → lxO k (lxTxt u676 ty tm) (ftLayW w mo) (ftPush w z hm) (min (hm + 1) 5) ty tm := fun _ _ h9 => lxO_txt hO1 h9
                                      have e676 : r676 = 2 := lx_fa2 hr676 hflB
                                      subst e676
                                      refine lv_iconst (v := 2) hx hb dL_isTold_679 (by decide) ?_
                                      refine lv_icmp_ne (tgt := 687) hx hb dL_isTold_680 (by decide) (fun c680 => ?_) (fun c680 => ?_)
                                      · exact absurd (by decide) c680
                                      · refine lv_iconst (v := 1) hx hb dL_isTold_683 (by decide) ?_
                                        refine lv_goto (tgt := 688) hx hb dL_isTold_684 (by decide) ?_
                                        refine lv_istore (lv' := [(7, .int 1), (8, .int (nI no9)), (0, .ref o0), (1, .ref p0), (2, .ref t0), (3, .int (nI C)), (4, .int (nI V)), (5, .int (nI N9)), (6, .int (nI LN))]) hx hb dL_isTold_688 hl (by decide) rfl (fun ls hl => ?_)
                                        refine lv_aload_n hx hb dL_isTold_690 rfl (lv_at hl 2 rfl) ?_
                                        refine lv_sipush (v := 5001) hx hb dL_isTold_691 (by decide) ?_
                                        refine ft_callBv (X := (ftCB9 cI cS o0 Ao ((lxTxt u676 t657 (no9 + 6 + 1 + d657)).1.2.1 0) (lxTxt u676 t657 (no9 + 6 + 1 + d657)))) (Y := ([(t0, .inl (cI, 12, .inl tf9))] ++ ftCB9 cI cS p0 Ap ((lxTxt u579.2 tp1 np1).1.2.1 0) (lxTxt u579.2 tp1 np1))) (X1 := fun (u694 : ftCdT) => (ftCB9 cI cS o0 Ao (u694.1.2.1 0) u694)) (ws1 := fun (u694 : ftCdT) => ([(t0, .inl (cI, 12, .inl tf9))] ++ (ftCB9 cI cS o0 Ao (u694.1.2.1 0) u694 ++ ftCB9 cI cS p0 Ap ((lxTxt u579.2 tp1 np1).1.2.1 0) (lxTxt u579.2 tp1 np1)))) (va_runS (As := [.ref o0, .int 5001]) (rest := []) ⟨hx, hb, hml, hown, hts⟩ (c_L_numberP l D cI cS H.size sK sV o0 Ao (lxTxt u676 t657 (no9 + 6 + 1 + d657)) 5001 (by omega) (show no9 + 6 + 1 + d657 + 7 ≤ 120 by omega)) (va_cwS 2 hts gL_isTold_L_number rfl rfl rfl (by decide +kernel) ⟨Nat.le_of_ble_eq_true rfl, Nat.le_of_ble_eq_true rfl⟩) (ft_preBS (List.perm_append_comm_assoc _ _ _) hP hD hKK hSt hS hA) rfl rfl hl.1 rfl (lv_room (Nat.le_of_ble_eq_true rfl)) dL_isTold_694 ⟨Nat.le_of_ble_eq_true rfl, Nat.le_of_ble_eq_true rfl⟩) hP hD hS hA (List.perm_append_comm_assoc _ _ _) (fun _ => (List.Perm.symm (List.perm_append_comm_assoc _ _ _))) (fun u694 h694 H locs hP hD hS => ?_)
                                        have hP : va_P D vwCl ([(t0, .inl (cI, 12, .inl tf9))] ++ (ftCB9 cI cS o0 Ao (u694.1.2.1 0) u694 ++ ftCB9 cI cS p0 Ap ((lxTxt u579.2 tp1 np1).1.2.1 0) (lxTxt u579.2 tp1 np1))) H := hP
                                        have hD : va_D A ([(t0, .inl (cI, 12, .inl tf9))] ++ (ftCB9 cI cS o0 Ao (u694.1.2.1 0) u694 ++ ftCB9 cI cS p0 Ap ((lxTxt u579.2 tp1 np1).1.2.1 0) (lxTxt u579.2 tp1 np1))) := hD
                                        obtain ⟨d694, t694, hu694, hn694, ha694⟩ := h694
                                        subst hu694
                                        have hP : va_P D vwCl ([(t0, .inl (cI, 12, .inl tf9))] ++ (ftCB9 cI cS o0 Ao ((lxTxt u676 t694 (no9 + 6 + 1 + d657 + 1 + d694)).1.2.1 0) (lxTxt u676 t694 (no9 + 6 + 1 + d657 + 1 + d694)) ++ ftCB9 cI cS p0 Ap ((lxTxt u579.2 tp1 np1).1.2.1 0) (lxTxt u579.2 tp1 np1))) H := hP
                                        have hD : va_D A ([(t0, .inl (cI, 12, .inl tf9))] ++ (ftCB9 cI cS o0 Ao ((lxTxt u676 t694 (no9 + 6 + 1 + d657 + 1 + d694)).1.2.1 0) (lxTxt u676 t694 (no9 + 6 + 1 + d657 + 1 + d694)) ++ ftCB9 cI cS p0 Ap ((lxTxt u579.2 tp1 np1).1.2.1 0) (lxTxt u579.2 tp1 np1))) := hD
                                        have hn694 : lxN t694 (no9 + 6 + 1 + d657) 1 d694 5001 := hn694
                                        have ha694 : ∀ t, t < no9 + 6 + 1 + d657 → t694 t = t657 t := ha694
                                        have hd694 : 1 ≤ d694 ∧ d694 ≤ 5 := ⟨hn694.2.2.1, hn694.2.2.2.1⟩
                                        obtain ⟨sC, dC, nC, hiC, heC, hvC, hvC1⟩ := lx_it2 (j := 3) (p := no9) hn657 ha657 hn694 ha694
                                        have hGC : lxG t694 K7 no9 h7 mo := lxG_mono hG (fun t ht => (ha694 t (by omega)).trans ((ha657 t (by omega)).trans (lxTy_lo ht)))
                                        have hflC : ftCPar t694 (no9 + 6 + 1 + d657 + 1 + d694) = none ∧ ∀ rs pl nu, ftFx t694 (no9 + 6 + 1 + d657 + 1 + d694) rs pl nu → rs = 3 ∧ pl = nI no9 ∧ nu = nI 1 := lx_fl3 hGC (j := 3) (by omega) hiC heC (by rw [hvC, lxV_1]; exact lx_nrt hm09 hLN)
                                        refine lv_iload hx hb dL_isTold_697 (lv_at hl 0 rfl) ?_
                                        refine lv_if_eq (tgt := 741) hx hb dL_isTold_699 (by decide) (fun c699 => ?_) (fun c699 => ?_)
                                        · exact absurd c699 (by decide)
                                        · refine lv_aload_n hx hb dL_isTold_702 rfl (lv_at hl 2 rfl) ?_
                                          refine lv_iconst (v := 1) hx hb dL_isTold_703 (by decide) ?_
                                          refine ft_callB (X := (ftCB9 cI cS o0 Ao ((lxTxt u676 t694 (no9 + 6 + 1 + d657 + 1 + d694)).1.2.1 0) (lxTxt u676 t694 (no9 + 6 + 1 + d657 + 1 + d694)))) (Y := ([(t0, .inl (cI, 12, .inl tf9))] ++ ftCB9 cI cS p0 Ap ((lxTxt u579.2 tp1 np1).1.2.1 0) (lxTxt u579.2 tp1 np1))) (X1 := fun (u704 : ftCdT) => (ftCB9 cI cS o0 Ao (u704.1.2.1 0) u704)) (ws1 := fun (u704 : ftCdT) => ([(t0, .inl (cI, 12, .inl tf9))] ++ (ftCB9 cI cS o0 Ao (u704.1.2.1 0) u704 ++ ftCB9 cI cS p0 Ap ((lxTxt u579.2 tp1 np1).1.2.1 0) (lxTxt u579.2 tp1 np1)))) (va_runV (C := RX10) (As := [.int 1]) (rest := []) ⟨hx, hb, hml, hown, hts⟩ (eo_fault l D cI cS H.size sK sV o0 Ao (lxTxt u676 t694 (no9 + 6 + 1 + d657 + 1 + d694)) k (ftLayW w mo) (ftPush w z hm) (min (hm + 1) 5) t694 (no9 + 6 + 1 + d657 + 1 + d694) 1 (by omega) (hOc _ _ (by omega))) (cwV 1 hts gL_isTold_X10_fault rfl rfl rfl (by decide +kernel) ⟨Nat.le_of_ble_eq_true rfl, Nat.le_of_ble_eq_true rfl⟩) (ft_preB (ci := 10) (List.perm_append_comm_assoc _ _ _) hP hD hKK hSt hS hA rfl rfl) rfl rfl hl.1 rfl (lv_room (Nat.le_of_ble_eq_true rfl)) dL_isTold_704 ⟨Nat.le_of_ble_eq_true rfl, Nat.le_of_ble_eq_true rfl⟩) hP hD hS hA (List.perm_append_comm_assoc _ _ _) (fun _ => (List.Perm.symm (List.perm_append_comm_assoc _ _ _))) (fun r704 u704 h704 H locs hP hD hS => ?_)
                                          have hP : va_P D vwCl ([(t0, .inl (cI, 12, .inl tf9))] ++ (ftCB9 cI cS o0 Ao (u704.1.2.1 0) u704 ++ ftCB9 cI cS p0 Ap ((lxTxt u579.2 tp1 np1).1.2.1 0) (lxTxt u579.2 tp1 np1))) H := hP
                                          have hD : va_D A ([(t0, .inl (cI, 12, .inl tf9))] ++ (ftCB9 cI cS o0 Ao (u704.1.2.1 0) u704 ++ ftCB9 cI cS p0 Ap ((lxTxt u579.2 tp1 np1).1.2.1 0) (lxTxt u579.2 tp1 np1))) := hD
                                          obtain ⟨hr704, hO1⟩ := h704
                                          have hP : va_P D vwCl ([(t0, .inl (cI, 12, .inl tf9))] ++ (ftCB9 cI cS o0 Ao ((lxTxt u704 t694 (no9 + 6 + 1 + d657 + 1 + d694)).1.2.1 0) (lxTxt u704 t694 (no9 + 6 + 1 + d657 + 1 + d694)) ++ ftCB9 cI cS p0 Ap ((lxTxt u579.2 tp1 np1).1.2.1 0) (lxTxt u579.2 tp1 np1))) H := (by rw [← lxO_self hO1]; exact hP)
                                          have hD : va_D A ([(t0, .inl (cI, 12, .inl tf9))] ++ (ftCB9 cI cS o0 Ao ((lxTxt u704 t694 (no9 + 6 + 1 + d657 + 1 + d694)).1.2.1 0) (lxTxt u704 t694 (no9 + 6 + 1 + d657 + 1 + d694)) ++ ftCB9 cI cS p0 Ap ((lxTxt u579.2 tp1 np1).1.2.1 0) (lxTxt u579.2 tp1 np1))) := (by rw [← lxO_self hO1]; exact hD)
                                          have hOc : ∀ (ty : Nat → Int32) (tm : Nat), tm ≤ 120 → lxO k (lxTxt u704 ty tm) (ftLayW w mo) (ftPush w z hm) (min (hm + 1) 5) ty tm := fun _ _ h9 => lxO_txt hO1 h9
                                          have e704 : r704 = 3 := lx_fa1 hr704 hflC
                                          subst e704
                                          refine lv_iconst (v := 3) hx hb dL_isTold_707 (by decide) ?_
                                          refine lv_icmp_ne (tgt := 741) hx hb dL_isTold_708 (by decide) (fun c708 => ?_) (fun c708 => ?_)
                                          · exact absurd (by decide) c708
                                          · refine lv_aload_n hx hb dL_isTold_711 rfl (lv_at hl 2 rfl) ?_
                                            refine lv_iconst (v := 2) hx hb dL_isTold_712 (by decide) ?_
                                            refine ft_callB (X := (ftCB9 cI cS o0 Ao ((lxTxt u704 t694 (no9 + 6 + 1 + d657 + 1 + d694)).1.2.1 0) (lxTxt u704 t694 (no9 + 6 + 1 + d657 + 1 + d694)))) (Y := ([(t0, .inl (cI, 12, .inl tf9))] ++ ftCB9 cI cS p0 Ap ((lxTxt u579.2 tp1 np1).1.2.1 0) (lxTxt u579.2 tp1 np1))) (X1 := fun (u713 : ftCdT) => (ftCB9 cI cS o0 Ao (u713.1.2.1 0) u713)) (ws1 := fun (u713 : ftCdT) => ([(t0, .inl (cI, 12, .inl tf9))] ++ (ftCB9 cI cS o0 Ao (u713.1.2.1 0) u713 ++ ftCB9 cI cS p0 Ap ((lxTxt u579.2 tp1 np1).1.2.1 0) (lxTxt u579.2 tp1 np1)))) (va_runV (C := RX10) (As := [.int 2]) (rest := []) ⟨hx, hb, hml, hown, hts⟩ (eo_fault l D cI cS H.size sK sV o0 Ao (lxTxt u704 t694 (no9 + 6 + 1 + d657 + 1 + d694)) k (ftLayW w mo) (ftPush w z hm) (min (hm + 1) 5) t694 (no9 + 6 + 1 + d657 + 1 + d694) 2 (by omega) (hOc _ _ (by omega))) (cwV 1 hts gL_isTold_X10_fault rfl rfl rfl (by decide +kernel) ⟨Nat.le_of_ble_eq_true rfl, Nat.le_of_ble_eq_true rfl⟩) (ft_preB (ci := 10) (List.perm_append_comm_assoc _ _ _) hP hD hKK hSt hS hA rfl rfl) rfl rfl hl.1 rfl (lv_room (Nat.le_of_ble_eq_true rfl)) dL_isTold_713 ⟨Nat.le_of_ble_eq_true rfl, Nat.le_of_ble_eq_true rfl⟩) hP hD hS hA (List.perm_append_comm_assoc _ _ _) (fun _ => (List.Perm.symm (List.perm_append_comm_assoc _ _ _))) (fun r713 u713 h713 H locs hP hD hS => ?_)
                                            have hP : va_P D vwCl ([(t0, .inl (cI, 12, .inl tf9))] ++ (ftCB9 cI cS o0 Ao (u713.1.2.1 0) u713 ++ ftCB9 cI cS p0 Ap ((lxTxt u579.2 tp1 np1).1.2.1 0) (lxTxt u579.2 tp1 np1))) H := hP
                                            have hD : va_D A ([(t0, .inl (cI, 12, .inl tf9))] ++ (ftCB9 cI cS o0 Ao (u713.1.2.1 0) u713 ++ ftCB9 cI cS p0 Ap ((lxTxt u579.2 tp1 np1).1.2.1 0) (lxTxt u579.2 tp1 np1))) := hD
                                            obtain ⟨hr713, hO1⟩ := h713
                                            have hP : va_P D vwCl ([(t0, .inl (cI, 12, .inl tf9))] ++ (ftCB9 cI cS o0 Ao ((lxTxt u713 t694 (no9 + 6 + 1 + d657 + 1 + d694)).1.2.1 0) (lxTxt u713 t694 (no9 + 6 + 1 + d657 + 1 + d694)) ++ ftCB9 cI cS p0 Ap ((lxTxt u579.2 tp1 np1).1.2.1 0) (lxTxt u579.2 tp1 np1))) H := (by rw [← lxO_self hO1]; exact hP)
                                            have hD : va_D A ([(t0, .inl (cI, 12, .inl tf9))] ++ (ftCB9 cI cS o0 Ao ((lxTxt u713 t694 (no9 + 6 + 1 + d657 + 1 + d694)).1.2.1 0) (lxTxt u713 t694 (no9 + 6 + 1 + d657 + 1 + d694)) ++ ftCB9 cI cS p0 Ap ((lxTxt u579.2 tp1 np1).1.2.1 0) (lxTxt u579.2 tp1 np1))) := (by rw [← lxO_self hO1]; exact hD)
                                            have hOc : ∀ (ty : Nat → Int32) (tm : Nat), tm ≤ 120 → lxO k (lxTxt u713 ty tm) (ftLayW w mo) (ftPush w z hm) (min (hm + 1) 5) ty tm := fun _ _ h9 => lxO_txt hO1 h9
                                            have e713 : r713 = 1 := lx_fa2 hr713 hflC
                                            subst e713
                                            refine lv_iconst (v := 1) hx hb dL_isTold_716 (by decide) ?_
                                            refine lv_icmp_ne (tgt := 741) hx hb dL_isTold_717 (by decide) (fun c717 => ?_) (fun c717 => ?_)
                                            · exact absurd (by decide) c717
                                            · refine lv_aload_n hx hb dL_isTold_720 rfl (lv_at hl 2 rfl) ?_
                                              refine ft_callB (X := (ftCB9 cI cS o0 Ao ((lxTxt u713 t694 (no9 + 6 + 1 + d657 + 1 + d694)).1.2.1 0) (lxTxt u713 t694 (no9 + 6 + 1 + d657 + 1 + d694)))) (Y := ([(t0, .inl (cI, 12, .inl tf9))] ++ ftCB9 cI cS p0 Ap ((lxTxt u579.2 tp1 np1).1.2.1 0) (lxTxt u579.2 tp1 np1))) (X1 := fun (u721 : ftCdT) => (ftCB9 cI cS o0 Ao (u721.1.2.1 0) u721)) (ws1 := fun (u721 : ftCdT) => ([(t0, .inl (cI, 12, .inl tf9))] ++ (ftCB9 cI cS o0 Ao (u721.1.2.1 0) u721 ++ ftCB9 cI cS p0 Ap ((lxTxt u579.2 tp1 np1).1.2.1 0) (lxTxt u579.2 tp1 np1)))) (va_runV (C := RX10) (As := []) (rest := []) ⟨hx, hb, hml, hown, hts⟩ (eo_layN l D cI cS H.size sK sV o0 Ao (lxTxt u713 t694 (no9 + 6 + 1 + d657 + 1 + d694)) k (ftLayW w mo) (ftPush w z hm) (min (hm + 1) 5) t694 (no9 + 6 + 1 + d657 + 1 + d694) (by omega) (hOc _ _ (by omega)) hflC.1) (cwV 0 hts gL_isTold_X10_lay rfl rfl rfl (by decide +kernel) ⟨Nat.le_of_ble_eq_true rfl, Nat.le_of_ble_eq_true rfl⟩) (ft_preB (ci := 10) (List.perm_append_comm_assoc _ _ _) hP hD hKK hSt hS hA rfl rfl) rfl rfl hl.1 rfl (lv_room (Nat.le_of_ble_eq_true rfl)) dL_isTold_721 ⟨Nat.le_of_ble_eq_true rfl, Nat.le_of_ble_eq_true rfl⟩) hP hD hS hA (List.perm_append_comm_assoc _ _ _) (fun _ => (List.Perm.symm (List.perm_append_comm_assoc _ _ _))) (fun r721 u721 h721 H locs hP hD hS => ?_)
                                              have hP : va_P D vwCl ([(t0, .inl (cI, 12, .inl tf9))] ++ (ftCB9 cI cS o0 Ao (u721.1.2.1 0) u721 ++ ftCB9 cI cS p0 Ap ((lxTxt u579.2 tp1 np1).1.2.1 0) (lxTxt u579.2 tp1 np1))) H := hP
                                              have hD : va_D A ([(t0, .inl (cI, 12, .inl tf9))] ++ (ftCB9 cI cS o0 Ao (u721.1.2.1 0) u721 ++ ftCB9 cI cS p0 Ap ((lxTxt u579.2 tp1 np1).1.2.1 0) (lxTxt u579.2 tp1 np1))) := hD
                                              obtain ⟨hr721, hO1⟩ := h721
                                              have hP : va_P D vwCl ([(t0, .inl (cI, 12, .inl tf9))] ++ (ftCB9 cI cS o0 Ao ((lxTxt u721 t694 (no9 + 6 + 1 + d657 + 1 + d694)).1.2.1 0) (lxTxt u721 t694 (no9 + 6 + 1 + d657 + 1 + d694)) ++ ftCB9 cI cS p0 Ap ((lxTxt u579.2 tp1 np1).1.2.1 0) (lxTxt u579.2 tp1 np1))) H := (by rw [← lxO_self hO1]; exact hP)
                                              have hD : va_D A ([(t0, .inl (cI, 12, .inl tf9))] ++ (ftCB9 cI cS o0 Ao ((lxTxt u721 t694 (no9 + 6 + 1 + d657 + 1 + d694)).1.2.1 0) (lxTxt u721 t694 (no9 + 6 + 1 + d657 + 1 + d694)) ++ ftCB9 cI cS p0 Ap ((lxTxt u579.2 tp1 np1).1.2.1 0) (lxTxt u579.2 tp1 np1))) := (by rw [← lxO_self hO1]; exact hD)
                                              have hOc : ∀ (ty : Nat → Int32) (tm : Nat), tm ≤ 120 → lxO k (lxTxt u721 ty tm) (ftLayW w mo) (ftPush w z hm) (min (hm + 1) 5) ty tm := fun _ _ h9 => lxO_txt hO1 h9
                                              subst hr721
                                              refine lv_ldc (v := (-1000002)) hx hb hown (hts (.constant RL 66 (-1000002)) (by decide +kernel)) dL_isTold_724 ?_
                                              refine lv_icmp_ne (tgt := 741) hx hb dL_isTold_726 (by decide) (fun c726 => ?_) (fun c726 => ?_)
                                              · exact absurd (by decide) c726
                                              · refine lv_aload_n hx hb dL_isTold_729 rfl (lv_at hl 2 rfl) ?_
                                                refine lv_aload_n hx hb dL_isTold_730 rfl (lv_at hl 3 rfl) ?_
                                                refine ft_callB (X := (ftCB9 cI cS o0 Ao ((lxTxt u721 t694 (no9 + 6 + 1 + d657 + 1 + d694)).1.2.1 0) (lxTxt u721 t694 (no9 + 6 + 1 + d657 + 1 + d694)) ++ ftCB9 cI cS p0 Ap ((lxTxt u579.2 tp1 np1).1.2.1 0) (lxTxt u579.2 tp1 np1))) (Y := [(t0, .inl (cI, 12, .inl tf9))]) (X1 := fun (u731 : ftCdT × ftCdT) => (ftCB9 cI cS o0 Ao (u731.1.1.2.1 0) u731.1 ++ ftCB9 cI cS p0 Ap (u731.2.1.2.1 0) u731.2)) (ws1 := fun (u731 : ftCdT × ftCdT) => ([(t0, .inl (cI, 12, .inl tf9))] ++ (ftCB9 cI cS o0 Ao (u731.1.1.2.1 0) u731.1 ++ ftCB9 cI cS p0 Ap (u731.2.1.2.1 0) u731.2))) (va_runS (As := [.ref o0, .ref p0]) (rest := []) ⟨hx, hb, hml, hown, hts⟩ (c_L_areAlike l D cI cS H.size sK sV o0 p0 Ao Ap (lxTxt u721 t694 (no9 + 6 + 1 + d657 + 1 + d694)) (lxTxt u579.2 tp1 np1) k (ftLayW w mo) (ftPush w z hm) (min (hm + 1) 5) t694 (no9 + 6 + 1 + d657 + 1 + d694) tp1 np1 (by omega) (hOc _ _ (by omega)) (hQc _ _ (by omega))) (va_cwS 2 hts gL_isTold_L_areAlike rfl rfl rfl (by decide +kernel) ⟨Nat.le_of_ble_eq_true rfl, Nat.le_of_ble_eq_true rfl⟩) (ft_preBS List.perm_append_comm hP hD hKK hSt hS hA) rfl rfl hl.1 rfl (lv_room (Nat.le_of_ble_eq_true rfl)) dL_isTold_731 ⟨Nat.le_of_ble_eq_true rfl, Nat.le_of_ble_eq_true rfl⟩) hP hD hS hA List.perm_append_comm (fun _ => (List.Perm.symm List.perm_append_comm)) (fun r731 u731 h731 H locs hP hD hS => ?_)
                                                have hP : va_P D vwCl ([(t0, .inl (cI, 12, .inl tf9))] ++ (ftCB9 cI cS o0 Ao (u731.1.1.2.1 0) u731.1 ++ ftCB9 cI cS p0 Ap (u731.2.1.2.1 0) u731.2)) H := hP
                                                have hD : va_D A ([(t0, .inl (cI, 12, .inl tf9))] ++ (ftCB9 cI cS o0 Ao (u731.1.1.2.1 0) u731.1 ++ ftCB9 cI cS p0 Ap (u731.2.1.2.1 0) u731.2)) := hD
                                                obtain ⟨hr731, hO1, hQ1⟩ := h731
                                                subst hr731
                                                have hP : va_P D vwCl ([(t0, .inl (cI, 12, .inl tf9))] ++ (ftCB9 cI cS o0 Ao ((lxTxt u731.1 t694 (no9 + 6 + 1 + d657 + 1 + d694)).1.2.1 0) (lxTxt u731.1 t694 (no9 + 6 + 1 + d657 + 1 + d694)) ++ ftCB9 cI cS p0 Ap ((lxTxt u731.2 tp1 np1).1.2.1 0) (lxTxt u731.2 tp1 np1))) H := by rw [← lxO_self hO1, ← lxQ_self hQ1]; exact hP
                                                have hD : va_D A ([(t0, .inl (cI, 12, .inl tf9))] ++ (ftCB9 cI cS o0 Ao ((lxTxt u731.1 t694 (no9 + 6 + 1 + d657 + 1 + d694)).1.2.1 0) (lxTxt u731.1 t694 (no9 + 6 + 1 + d657 + 1 + d694)) ++ ftCB9 cI cS p0 Ap ((lxTxt u731.2 tp1 np1).1.2.1 0) (lxTxt u731.2 tp1 np1))) := by rw [← lxO_self hO1, ← lxQ_self hQ1]; exact hD
                                                have hOc : ∀ (ty : Nat → Int32) (tm : Nat), tm ≤ 120 → lxO k (lxTxt u731.1 ty tm) (ftLayW w mo) (ftPush w z hm) (min (hm + 1) 5) ty tm := fun _ _ h9 => lxO_txt hO1 h9
                                                have hQc : ∀ (ty : Nat → Int32) (tm : Nat), tm ≤ 120 → lxQ (lxTxt u731.2 ty tm) (ftLayW w mo) ty tm := fun _ _ h9 => lxQ_txt hQ1 h9
                                                refine lv_if_eq (tgt := 741) hx hb dL_isTold_734 (by decide) (fun c734 => ?_) (fun c734 => ?_)
                                                · exact absurd c734 (by decide)
                                                · refine lv_iconst (v := 1) hx hb dL_isTold_737 (by decide) ?_
                                                  refine lv_goto (tgt := 742) hx hb dL_isTold_738 (by decide) ?_
                                                  refine lv_istore (lv' := [(7, .int 1), (8, .int (nI no9)), (0, .ref o0), (1, .ref p0), (2, .ref t0), (3, .int (nI C)), (4, .int (nI V)), (5, .int (nI N9)), (6, .int (nI LN))]) hx hb dL_isTold_742 hl (by decide) rfl (fun ls hl => ?_)
                                                  refine lv_iload hx hb dL_isTold_744 (lv_at hl 0 rfl) ?_
                                                  obtain ⟨u9, hu9⟩ : ∃ u9 : ftCdT × ftCdT × (Nat → Int32), u9 = ((lxTxt u731.1 t694 (no9 + 6 + 1 + d657 + 1 + d694)), (lxTxt u731.2 tp1 np1), tf9) := ⟨_, rfl⟩
                                                  have hw9 : (([(t0, .inl (cI, 12, .inl tf9))] ++ (ftCB9 cI cS o0 Ao ((lxTxt u731.1 t694 (no9 + 6 + 1 + d657 + 1 + d694)).1.2.1 0) (lxTxt u731.1 t694 (no9 + 6 + 1 + d657 + 1 + d694)) ++ ftCB9 cI cS p0 Ap ((lxTxt u731.2 tp1 np1).1.2.1 0) (lxTxt u731.2 tp1 np1))) : va_W) = ([(t0, .inl (cI, 12, .inl u9.2.2))] ++ (ftCB9 cI cS o0 Ao (u9.1.1.2.1 0) u9.1 ++ ftCB9 cI cS p0 Ap (u9.2.1.1.2.1 0) u9.2.1)) := by subst hu9; rfl
                                                  rw [hw9] at hP hD
                                                  have hf9_0 : ∃ w1 z1 h1 t1 n1 wq tq nq x, lxO k u9.1 w1 z1 h1 t1 n1 ∧ lxQ u9.2.1 wq tq nq ∧ (∀ j, j < 11 → w1 (44 + j) = ftW0 (44 + j)) ∧ (∀ j, j < 11 → wq (44 + j) = ftW0 (44 + j)) ∧ lxFr t1 n1 x ∧ (x = 4 ∨ x ≠ 4 ∧ wq = w1 ∧ ftCN w1 < 9) := by rw [hu9]; first | exact ⟨_, _, _, _, _, _, _, _, 3, hOc _ _ (by omega), hQc _ _ (by omega), hF1, hF1, lxFr_F hflC, Or.inr ⟨by decide, rfl, hcl9⟩⟩ | exact ⟨_, _, _, _, _, _, _, _, -1000004, hOc _ _ (by omega), hQc _ _ (by omega), hF1, hF1, lxFr_O (lxG_all hG), Or.inr ⟨by decide, rfl, hcl9⟩⟩
                                                  have hr9 : (1 : Int32) = 1 := by exact rfl
                                                  exact W.zret (v := 1) hx hb hr (by rfl) (fun t ht hW => ⟨⟨1, u9, rfl, ⟨hr9, hf9_0⟩, by rw [ht]; exact hP, by rw [hAe]; exact hD⟩, by rw [hAe]; exact hS.F ht⟩) hS.2.2 dL_isTold_746
            · have c160n : kk < N9 := ft_nleN (by omega) (by omega) c160
              refine lv_iload hx hb dL_isTold_163 (lv_at hl 4 rfl) ?_
              refine lv_ldc (v := 1103515245) hx hb hown (hts (.constant RL 36 1103515245) (by decide +kernel)) dL_isTold_165 ?_
              refine lv_imul hx hb dL_isTold_167 ?_
              refine ft_top (y := nI (V * 1103515245)) (ft_mulN V 1103515245) ?_
              refine lv_sipush (v := 12345) hx hb dL_isTold_168 (by decide) ?_
              refine lv_iadd hx hb dL_isTold_171 ?_
              refine ft_top (y := nI ((V * 1103515245) + 12345)) (ft_addN (V * 1103515245) 12345) ?_
              refine lv_ldc (v := 2147483647) hx hb hown (hts (.constant RL 8 2147483647) (by decide +kernel)) dL_isTold_172 ?_
              refine lv_iand hx hb dL_isTold_174 ?_
              obtain ⟨V2, hV2, eV2⟩ := pk_andE ((nI ((V * 1103515245) + 12345))) (m := 2147483647) 31 (by decide)
              refine ft_top (y := nI V2) eV2 ?_
              refine lv_istore (lv' := [(4, .int (nI V2)), (0, .ref o0), (1, .ref p0), (2, .ref t0), (3, .int (nI C)), (5, .int (nI N9)), (6, .int (nI LN)), (7, .int 1), (8, .int (nI kk))]) hx hb dL_isTold_175 hl (by decide) rfl (fun ls hl => ?_)
              refine lv_iload hx hb dL_isTold_177 (lv_at hl 0 rfl) ?_
              refine lv_bipush (v := 6) hx hb dL_isTold_179 (by decide) ?_
              refine lv_ishr hx hb dL_isTold_181 ?_
              refine ft_top (y := nI (V2 / 64)) (pk_shrN hV2 _ 6 (by decide)) ?_
              refine lv_iconst (v := 3) hx hb dL_isTold_182 (by decide) ?_
              refine lv_irem hx hb dL_isTold_183 (by decide) ?_
              refine ft_top (y := ftRemI (nI (V2 / 64)) 3) rfl ?_
              refine ft_top (y := nI (V2 / 64 % 3)) (ft_remN (b := 3) (by omega) (by omega) (by omega)) ?_
              refine lv_istore (lv' := [(9, .int (nI (V2 / 64 % 3))), (4, .int (nI V2)), (0, .ref o0), (1, .ref p0), (2, .ref t0), (3, .int (nI C)), (5, .int (nI N9)), (6, .int (nI LN)), (7, .int 1), (8, .int (nI kk))]) hx hb dL_isTold_184 hl (by decide) rfl (fun ls hl => ?_)
              obtain ⟨kd, hkd⟩ : ∃ kd, kd = V2 / 64 % 3 := ⟨_, rfl⟩
              rw [← hkd] at hl
              have hkd3 : kd < 3 := by omega
              refine lv_iconst (v := 1) hx hb dL_isTold_186 (by decide) ?_
              refine lv_iload hx hb dL_isTold_187 (lv_at hl 1 rfl) ?_
              refine lv_bipush (v := 8) hx hb dL_isTold_189 (by decide) ?_
              refine lv_ishr hx hb dL_isTold_191 ?_
              refine ft_top (y := nI (V2 / 256)) (pk_shrN hV2 _ 8 (by decide)) ?_
              refine lv_bipush (v := 49) hx hb dL_isTold_192 (by decide) ?_
              refine lv_irem hx hb dL_isTold_194 (by decide) ?_
              refine ft_top (y := ftRemI (nI (V2 / 256)) 49) rfl ?_
              refine ft_top (y := nI (V2 / 256 % 49)) (ft_remN (b := 49) (by omega) (by omega) (by omega)) ?_
              refine lv_bipush (v := 17) hx hb dL_isTold_195 (by decide) ?_
              refine lv_iload hx hb dL_isTold_197 (lv_at hl 9 rfl) ?_
              refine lv_imul hx hb dL_isTold_199 ?_
              refine ft_top (y := nI (17 * kk)) (ft_mulN 17 kk) ?_
              refine lv_iadd hx hb dL_isTold_200 ?_
              refine ft_top (y := nI ((V2 / 256 % 49) + (17 * kk))) (ft_addN (V2 / 256 % 49) (17 * kk)) ?_
              refine lv_bipush (v := 49) hx hb dL_isTold_201 (by decide) ?_
              refine lv_irem hx hb dL_isTold_203 (by decide) ?_
              refine ft_top (y := ftRemI (nI ((V2 / 256 % 49) + (17 * kk))) 49) rfl ?_
              refine ft_top (y := nI ((V2 / 256 % 49 + 17 * kk) % 49)) (ft_remN (b := 49) (by omega) (by omega) (by omega)) ?_
              refine lv_iadd hx hb dL_isTold_204 ?_
              refine ft_top (y := nI (1 + ((V2 / 256 % 49 + 17 * kk) % 49))) (ft_addN 1 ((V2 / 256 % 49 + 17 * kk) % 49)) ?_
              refine lv_istore (lv' := [(10, .int (nI (1 + ((V2 / 256 % 49 + 17 * kk) % 49)))), (9, .int (nI kd)), (4, .int (nI V2)), (0, .ref o0), (1, .ref p0), (2, .ref t0), (3, .int (nI C)), (5, .int (nI N9)), (6, .int (nI LN)), (7, .int 1), (8, .int (nI kk))]) hx hb dL_isTold_205 hl (by decide) rfl (fun ls hl => ?_)
              obtain ⟨pl, hpl⟩ : ∃ pl, pl = 1 + (V2 / 256 % 49 + 17 * kk) % 49 := ⟨_, rfl⟩
              rw [← hpl] at hl
              have hpl1 : 1 ≤ pl ∧ pl ≤ 49 := by omega
              refine lv_iload hx hb dL_isTold_207 (lv_at hl 1 rfl) ?_
              have jn275 : ∀ (lo fl : Int32) (sl nl nf : Nat), (lo = lxV sl nl) → (sl = 1 ∨ sl = 2 ∧ 0 < nl) → (nl < 100000) → ((kd = 0 ∧ -500 ≤ lo ∧ lo ≤ 5000) ∨ (kd = 1 ∧ 0 ≤ lo ∧ lo ≤ 5000) ∨ (kd = 2 ∧ 0 ≤ lo ∧ lo ≤ 50)) → (fl = nI nf ∧ nf < 100000) → ((kd = 1 ∧ 1 ≤ fl ∧ fl ≤ 20000) ∨ (kd ≠ 1 ∧ fl = 0)) → ∀ (H : Heap) (locs : List Loc), va_P D vwCl ([(t0, .inl (cI, 12, .inl tf9))] ++ (ftCB9 cI cS o0 Ao ((lxTxt co9 to9 no9).1.2.1 0) (lxTxt co9 to9 no9) ++ ftCB9 cI cS p0 Ap ((lxTxt cp9 tp1 np1).1.2.1 0) (lxTxt cp9 tp1 np1))) H → va_D A ([(t0, .inl (cI, 12, .inl tf9))] ++ (ftCB9 cI cS o0 Ao ((lxTxt co9 to9 no9).1.2.1 0) (lxTxt co9 to9 no9) ++ ftCB9 cI cS p0 Ap ((lxTxt cp9 tp1 np1).1.2.1 0) (lxTxt cp9 tp1 np1))) → va_S A s.heap H locs → ∀ ls : Array Slot, lv_has ls 16 [(10, .int (nI pl)), (9, .int (nI kd)), (4, .int (nI V2)), (0, .ref o0), (1, .ref p0), (2, .ref t0), (3, .int (nI C)), (5, .int (nI N9)), (6, .int (nI LN)), (7, .int 1), (8, .int (nI kk)), (11, .int lo), (12, .int fl)] → W p l e (headSpec wsL_isTold { frames := 10, cells := 0, slots := 0, locals := 228 }).room s m ([.ref o0, .ref p0, .ref t0, .int (nI C)] : List Value).toArray below meth c H locs 0 0 (MQ below (ftXi D ([(t0, .inl (cI, 12, .inl tf))] ++ (ftCB9 cI cS o0 Ao (co.1.2.1 0) co ++ ftCB9 cI cS p0 Ap (cp.1.2.1 0) cp)) s.heap.size (fun (o9 : Int32) (u : ftCdT × ftCdT × (Nat → Int32)) => o9 = 1 ∧ (∃ w1 z1 h1 t1 n1 wq tq nq x, lxO k u.1 w1 z1 h1 t1 n1 ∧ lxQ u.2.1 wq tq nq ∧ (∀ j, j < 11 → w1 (44 + j) = ftW0 (44 + j)) ∧ (∀ j, j < 11 → wq (44 + j) = ftW0 (44 + j)) ∧ lxFr t1 n1 x ∧ (x = 4 ∨ x ≠ 4 ∧ wq = w1 ∧ ftCN w1 < 9))) (fun (u : ftCdT × ftCdT × (Nat → Int32)) => ([(t0, .inl (cI, 12, .inl u.2.2))] ++ (ftCB9 cI cS o0 Ao (u.1.1.2.1 0) u.1 ++ ftCB9 cI cS p0 Ap (u.2.1.1.2.1 0) u.2.1)))) ([.ref o0, .ref p0, .ref t0, .int (nI C)] : List Value).toArray s 0 0 A) (F0 m 275 ls []) := by
                intro lo fl sl nl nf hlo1 hlo2 hlo3 hlr hfl1 hfl2 H locs hP hD hS ls hl
                have hfit := lx_fitT hm09 hLN hkd3 hpl1.1 hpl1.2 hlr hfl2
                refine lv_iconst (v := 0) hx hb dL_isTold_275 (by decide) ?_
                refine lv_istore (lv' := [(13, .int 0), (10, .int (nI pl)), (9, .int (nI kd)), (4, .int (nI V2)), (0, .ref o0), (1, .ref p0), (2, .ref t0), (3, .int (nI C)), (5, .int (nI N9)), (6, .int (nI LN)), (7, .int 1), (8, .int (nI kk)), (11, .int lo), (12, .int fl)]) hx hb dL_isTold_276 hl (by decide) rfl (fun ls hl => ?_)
                refine lv_iconst (v := 0) hx hb dL_isTold_278 (by decide) ?_
                refine lv_istore (lv' := [(14, .int 0), (13, .int 0), (10, .int (nI pl)), (9, .int (nI kd)), (4, .int (nI V2)), (0, .ref o0), (1, .ref p0), (2, .ref t0), (3, .int (nI C)), (5, .int (nI N9)), (6, .int (nI LN)), (7, .int 1), (8, .int (nI kk)), (11, .int lo), (12, .int fl)]) hx hb dL_isTold_279 hl (by decide) rfl (fun ls hl => ?_)
                have lp281 : ∀ (n281 : Nat) (i9 : Nat) (x281_13 : Int32) (x281_14 : Int32), kk - i9 < n281 → (i9 ≤ kk) → x281_13 = ftB (∃ i, i < i9 ∧ tf9 (4 * i + 1) = nI pl) → x281_14 = nI i9 → ∀ (H : Heap) (locs : List Loc), va_P D vwCl ([(t0, .inl (cI, 12, .inl tf9))] ++ (ftCB9 cI cS o0 Ao ((lxTxt co9 to9 no9).1.2.1 0) (lxTxt co9 to9 no9) ++ ftCB9 cI cS p0 Ap ((lxTxt cp9 tp1 np1).1.2.1 0) (lxTxt cp9 tp1 np1))) H → va_D A ([(t0, .inl (cI, 12, .inl tf9))] ++ (ftCB9 cI cS o0 Ao ((lxTxt co9 to9 no9).1.2.1 0) (lxTxt co9 to9 no9) ++ ftCB9 cI cS p0 Ap ((lxTxt cp9 tp1 np1).1.2.1 0) (lxTxt cp9 tp1 np1))) → va_S A s.heap H locs → ∀ ls : Array Slot, lv_has ls 16 [(0, .ref o0), (1, .ref p0), (2, .ref t0), (3, .int (nI C)), (4, .int (nI V2)), (5, .int (nI N9)), (6, .int (nI LN)), (7, .int 1), (8, .int (nI kk)), (9, .int (nI kd)), (10, .int (nI pl)), (11, .int lo), (12, .int fl), (13, .int x281_13), (14, .int x281_14)] → W p l e (headSpec wsL_isTold { frames := 10, cells := 0, slots := 0, locals := 228 }).room s m ([.ref o0, .ref p0, .ref t0, .int (nI C)] : List Value).toArray below meth c H locs 0 0 (MQ below (ftXi D ([(t0, .inl (cI, 12, .inl tf))] ++ (ftCB9 cI cS o0 Ao (co.1.2.1 0) co ++ ftCB9 cI cS p0 Ap (cp.1.2.1 0) cp)) s.heap.size (fun (o9 : Int32) (u : ftCdT × ftCdT × (Nat → Int32)) => o9 = 1 ∧ (∃ w1 z1 h1 t1 n1 wq tq nq x, lxO k u.1 w1 z1 h1 t1 n1 ∧ lxQ u.2.1 wq tq nq ∧ (∀ j, j < 11 → w1 (44 + j) = ftW0 (44 + j)) ∧ (∀ j, j < 11 → wq (44 + j) = ftW0 (44 + j)) ∧ lxFr t1 n1 x ∧ (x = 4 ∨ x ≠ 4 ∧ wq = w1 ∧ ftCN w1 < 9))) (fun (u : ftCdT × ftCdT × (Nat → Int32)) => ([(t0, .inl (cI, 12, .inl u.2.2))] ++ (ftCB9 cI cS o0 Ao (u.1.1.2.1 0) u.1 ++ ftCB9 cI cS p0 Ap (u.2.1.1.2.1 0) u.2.1)))) ([.ref o0, .ref p0, .ref t0, .int (nI C)] : List Value).toArray s 0 0 A) (F0 m 281 ls []) := by
                  intro n281
                  induction n281 with
                  | zero =>
                    intro i9 x281_13 x281_14  hm281
                    exact absurd hm281 (Nat.not_lt_zero _)
                  | succ n281 ih281 =>
                    intro i9 x281_13 x281_14  hm281 hi9 ex281_13 ex281_14  H locs hP hD hS ls hl
                    subst ex281_13
                    subst ex281_14
                    refine lv_iload hx hb dL_isTold_281 (lv_at hl 14 rfl) ?_
                    refine lv_iload hx hb dL_isTold_283 (lv_at hl 8 rfl) ?_
                    refine lv_icmp_ge (tgt := 319) hx hb dL_isTold_285 (by decide) (fun c285 => ?_) (fun c285 => ?_)
                    · have c285n : kk ≤ i9 := ft_leN (by omega) (by omega) c285
                      have hie : i9 = kk := by omega
                      rw [hie] at hl
                      rw [ftB_congr (hpl9 (nI pl))] at hl
                      refine lv_aload_n hx hb dL_isTold_319 rfl (lv_at hl 2 rfl) ?_
                      have jn346 : ∀ (tf2 : Nat → Int32), (¬ lxPl mo (nI pl) → tf2 (4 * kk + 1) = nI pl) → (∀ i, i < kk → tf2 (4 * i + 1) = tf9 (4 * i + 1)) → ∀ (H : Heap) (locs : List Loc), va_P D vwCl ([(t0, .inl (cI, 12, .inl tf2))] ++ (ftCB9 cI cS o0 Ao ((lxTxt co9 to9 no9).1.2.1 0) (lxTxt co9 to9 no9) ++ ftCB9 cI cS p0 Ap ((lxTxt cp9 tp1 np1).1.2.1 0) (lxTxt cp9 tp1 np1))) H → va_D A ([(t0, .inl (cI, 12, .inl tf2))] ++ (ftCB9 cI cS o0 Ao ((lxTxt co9 to9 no9).1.2.1 0) (lxTxt co9 to9 no9) ++ ftCB9 cI cS p0 Ap ((lxTxt cp9 tp1 np1).1.2.1 0) (lxTxt cp9 tp1 np1))) → va_S A s.heap H locs → ∀ ls : Array Slot, lv_has ls 16 [(0, .ref o0), (1, .ref p0), (2, .ref t0), (3, .int (nI C)), (4, .int (nI V2)), (5, .int (nI N9)), (6, .int (nI LN)), (7, .int 1), (8, .int (nI kk)), (9, .int (nI kd)), (10, .int (nI pl)), (11, .int lo), (12, .int fl), (13, .int (ftB (lxPl mo (nI pl)))), (14, .int (nI kk))] → W p l e (headSpec wsL_isTold { frames := 10, cells := 0, slots := 0, locals := 228 }).room s m ([.ref o0, .ref p0, .ref t0, .int (nI C)] : List Value).toArray below meth c H locs 0 0 (MQ below (ftXi D ([(t0, .inl (cI, 12, .inl tf))] ++ (ftCB9 cI cS o0 Ao (co.1.2.1 0) co ++ ftCB9 cI cS p0 Ap (cp.1.2.1 0) cp)) s.heap.size (fun (o9 : Int32) (u : ftCdT × ftCdT × (Nat → Int32)) => o9 = 1 ∧ (∃ w1 z1 h1 t1 n1 wq tq nq x, lxO k u.1 w1 z1 h1 t1 n1 ∧ lxQ u.2.1 wq tq nq ∧ (∀ j, j < 11 → w1 (44 + j) = ftW0 (44 + j)) ∧ (∀ j, j < 11 → wq (44 + j) = ftW0 (44 + j)) ∧ lxFr t1 n1 x ∧ (x = 4 ∨ x ≠ 4 ∧ wq = w1 ∧ ftCN w1 < 9))) (fun (u : ftCdT × ftCdT × (Nat → Int32)) => ([(t0, .inl (cI, 12, .inl u.2.2))] ++ (ftCB9 cI cS o0 Ao (u.1.1.2.1 0) u.1 ++ ftCB9 cI cS p0 Ap (u.2.1.1.2.1 0) u.2.1)))) ([.ref o0, .ref p0, .ref t0, .int (nI C)] : List Value).toArray s 0 0 A) (F0 m 346 ls []) := by
                        intro tf2 htf1 htf2 H locs hP hD hS ls hl
                        refine lv_aload_n hx hb dL_isTold_346 rfl (lv_at hl 0 rfl) ?_
                        refine lv_bipush (v := 18) hx hb dL_isTold_347 (by decide) ?_
                        refine ft_callB (X := (ftCB9 cI cS o0 Ao ((lxTxt co9 to9 no9).1.2.1 0) (lxTxt co9 to9 no9))) (Y := ([(t0, .inl (cI, 12, .inl tf2))] ++ ftCB9 cI cS p0 Ap ((lxTxt cp9 tp1 np1).1.2.1 0) (lxTxt cp9 tp1 np1))) (X1 := fun (u349 : ftCdT) => (ftCB9 cI cS o0 Ao (u349.1.2.1 0) u349)) (ws1 := fun (u349 : ftCdT) => ([(t0, .inl (cI, 12, .inl tf2))] ++ (ftCB9 cI cS o0 Ao (u349.1.2.1 0) u349 ++ ftCB9 cI cS p0 Ap ((lxTxt cp9 tp1 np1).1.2.1 0) (lxTxt cp9 tp1 np1)))) (va_runV (C := RX10) (As := [.int 18]) (rest := []) ⟨hx, hb, hml, hown, hts⟩ (eo_count l D cI cS H.size sK sV o0 Ao (lxTxt co9 to9 no9) k w z hm to9 no9 18 (by omega) (hOc _ _ (by omega))) (cwV 1 hts gL_isTold_X10_count rfl rfl rfl (by decide +kernel) ⟨Nat.le_of_ble_eq_true rfl, Nat.le_of_ble_eq_true rfl⟩) (ft_preB (ci := 10) (List.perm_append_comm_assoc _ _ _) hP hD hKK hSt hS hA rfl rfl) rfl rfl hl.1 rfl (lv_room (Nat.le_of_ble_eq_true rfl)) dL_isTold_349 ⟨Nat.le_of_ble_eq_true rfl, Nat.le_of_ble_eq_true rfl⟩) hP hD hS hA (List.perm_append_comm_assoc _ _ _) (fun _ => (List.Perm.symm (List.perm_append_comm_assoc _ _ _))) (fun r349 u349 h349 H locs hP hD hS => ?_)
                        have hP : va_P D vwCl ([(t0, .inl (cI, 12, .inl tf2))] ++ (ftCB9 cI cS o0 Ao (u349.1.2.1 0) u349 ++ ftCB9 cI cS p0 Ap ((lxTxt cp9 tp1 np1).1.2.1 0) (lxTxt cp9 tp1 np1))) H := hP
                        have hD : va_D A ([(t0, .inl (cI, 12, .inl tf2))] ++ (ftCB9 cI cS o0 Ao (u349.1.2.1 0) u349 ++ ftCB9 cI cS p0 Ap ((lxTxt cp9 tp1 np1).1.2.1 0) (lxTxt cp9 tp1 np1))) := hD
                        obtain ⟨hr349, hO1⟩ := h349
                        have hP : va_P D vwCl ([(t0, .inl (cI, 12, .inl tf2))] ++ (ftCB9 cI cS o0 Ao ((lxTxt u349 to9 no9).1.2.1 0) (lxTxt u349 to9 no9) ++ ftCB9 cI cS p0 Ap ((lxTxt cp9 tp1 np1).1.2.1 0) (lxTxt cp9 tp1 np1))) H := (by rw [← lxO_self hO1]; exact hP)
                        have hD : va_D A ([(t0, .inl (cI, 12, .inl tf2))] ++ (ftCB9 cI cS o0 Ao ((lxTxt u349 to9 no9).1.2.1 0) (lxTxt u349 to9 no9) ++ ftCB9 cI cS p0 Ap ((lxTxt cp9 tp1 np1).1.2.1 0) (lxTxt cp9 tp1 np1))) := (by rw [← lxO_self hO1]; exact hD)
                        have hOc : ∀ (ty : Nat → Int32) (tm : Nat), tm ≤ 120 → lxO k (lxTxt u349 ty tm) w z hm ty tm := fun _ _ h9 => lxO_txt hO1 h9
                        subst hr349
                        refine ft_top (y := nI no9) lxCnt_18 ?_
                        refine lv_istore (lv' := [(14, .int (nI no9)), (0, .ref o0), (1, .ref p0), (2, .ref t0), (3, .int (nI C)), (4, .int (nI V2)), (5, .int (nI N9)), (6, .int (nI LN)), (7, .int 1), (8, .int (nI kk)), (9, .int (nI kd)), (10, .int (nI pl)), (11, .int lo), (12, .int fl), (13, .int (ftB (lxPl mo (nI pl))))]) hx hb dL_isTold_352 hl (by decide) rfl (fun ls hl => ?_)
                        have jn428 : ∀ (to2 : Nat → Int32) (no2 : Nat) (s9 d9 n9 : Nat → Nat), (no2 ≤ no9 + 31) → (∀ t, t < no9 → to2 t = to9 t) → (lxI to2 no9 (3 + kd) (ftNs (nI (3 + kd))) s9 d9 n9) → (lxP (no9 + ftWs (3 + kd)) s9 d9 (ftNs (nI (3 + kd))) + 1 = no2) → (to2 (lxP (no9 + ftWs (3 + kd)) s9 d9 (ftNs (nI (3 + kd)))) = 59) → (lxV (s9 0) (n9 0) = nI pl) → (lxV (s9 1) (n9 1) = lo) → (kd = 1 → lxV (s9 2) (n9 2) = fl) → ∀ (H : Heap) (locs : List Loc), va_P D vwCl ([(t0, .inl (cI, 12, .inl tf2))] ++ (ftCB9 cI cS o0 Ao ((lxTxt u349 to2 no2).1.2.1 0) (lxTxt u349 to2 no2) ++ ftCB9 cI cS p0 Ap ((lxTxt cp9 tp1 np1).1.2.1 0) (lxTxt cp9 tp1 np1))) H → va_D A ([(t0, .inl (cI, 12, .inl tf2))] ++ (ftCB9 cI cS o0 Ao ((lxTxt u349 to2 no2).1.2.1 0) (lxTxt u349 to2 no2) ++ ftCB9 cI cS p0 Ap ((lxTxt cp9 tp1 np1).1.2.1 0) (lxTxt cp9 tp1 np1))) → va_S A s.heap H locs → ∀ ls : Array Slot, lv_has ls 16 [(14, .int (nI no9)), (0, .ref o0), (1, .ref p0), (2, .ref t0), (3, .int (nI C)), (4, .int (nI V2)), (5, .int (nI N9)), (6, .int (nI LN)), (7, .int 1), (8, .int (nI kk)), (9, .int (nI kd)), (10, .int (nI pl)), (11, .int lo), (12, .int fl), (13, .int (ftB (lxPl mo (nI pl))))] → W p l e (headSpec wsL_isTold { frames := 10, cells := 0, slots := 0, locals := 228 }).room s m ([.ref o0, .ref p0, .ref t0, .int (nI C)] : List Value).toArray below meth c H locs 0 0 (MQ below (ftXi D ([(t0, .inl (cI, 12, .inl tf))] ++ (ftCB9 cI cS o0 Ao (co.1.2.1 0) co ++ ftCB9 cI cS p0 Ap (cp.1.2.1 0) cp)) s.heap.size (fun (o9 : Int32) (u : ftCdT × ftCdT × (Nat → Int32)) => o9 = 1 ∧ (∃ w1 z1 h1 t1 n1 wq tq nq x, lxO k u.1 w1 z1 h1 t1 n1 ∧ lxQ u.2.1 wq tq nq ∧ (∀ j, j < 11 → w1 (44 + j) = ftW0 (44 + j)) ∧ (∀ j, j < 11 → wq (44 + j) = ftW0 (44 + j)) ∧ lxFr t1 n1 x ∧ (x = 4 ∨ x ≠ 4 ∧ wq = w1 ∧ ftCN w1 < 9))) (fun (u : ftCdT × ftCdT × (Nat → Int32)) => ([(t0, .inl (cI, 12, .inl u.2.2))] ++ (ftCB9 cI cS o0 Ao (u.1.1.2.1 0) u.1 ++ ftCB9 cI cS p0 Ap (u.2.1.1.2.1 0) u.2.1)))) ([.ref o0, .ref p0, .ref t0, .int (nI C)] : List Value).toArray s 0 0 A) (F0 m 428 ls []) := by
                          intro to2 no2 s9 d9 n9 hno2 hag2 hI2 hE2 hc2 hv0 hv1 hv2 H locs hP hD hS ls hl
                          refine lv_aload_n hx hb dL_isTold_428 rfl (lv_at hl 2 rfl) ?_
                          refine lv_iload hx hb dL_isTold_429 (lv_at hl 10 rfl) ?_
                          refine lv_iload hx hb dL_isTold_431 (lv_at hl 11 rfl) ?_
                          refine lv_iload hx hb dL_isTold_433 (lv_at hl 12 rfl) ?_
                          refine lv_iload hx hb dL_isTold_435 (lv_at hl 13 rfl) ?_
                          rcases Classical.em (lxPl mo (nI pl)) with htk | htk
                          · have hns3 := ftNs_le (nI (3 + kd))
                            have hfl4 := lx_fl4 (tn := no2) (lxG_mono hG hag2) (j := 3 + kd) (by omega) hI2 hc2 (by omega) (lx_rt (v := fun i => lxV (s9 i) (n9 i)) hkd3 hfit hv0 hv1 hv2) (fun q => ((lx_al (by omega) (by omega)).mp q).1 (by rw [hv0]; exact htk))
                            refine ft_callB (X := (ftCB9 cI cS p0 Ap ((lxTxt cp9 tp1 np1).1.2.1 0) (lxTxt cp9 tp1 np1))) (Y := ([(t0, .inl (cI, 12, .inl tf2))] ++ ftCB9 cI cS o0 Ao ((lxTxt u349 to2 no2).1.2.1 0) (lxTxt u349 to2 no2))) (X1 := fun (u437 : ftCdT) => (ftCB9 cI cS p0 Ap (u437.1.2.1 0) u437)) (ws1 := fun (u437 : ftCdT) => ([(t0, .inl (cI, 12, .inl tf2))] ++ (ftCB9 cI cS o0 Ao ((lxTxt u349 to2 no2).1.2.1 0) (lxTxt u349 to2 no2) ++ ftCB9 cI cS p0 Ap (u437.1.2.1 0) u437))) (va_runV (C := RX10) (As := [.int (nI kd), .int (nI pl), .int lo, .int fl]) (rest := []) ⟨hx, hb, hml, hown, hts⟩ (ep_addPartN l D cI cS H.size sK sV p0 Ap (lxTxt cp9 tp1 np1) wp9 tp1 np1 (nI kd) (nI pl) lo fl (hQc _ _ (by omega)) (lx_adn hEq9 (by omega) hfit htk).1) (cwV 4 hts gL_isTold_X10_addPart rfl rfl rfl (by decide +kernel) ⟨Nat.le_of_ble_eq_true rfl, Nat.le_of_ble_eq_true rfl⟩) (ft_preB (ci := 10) (ft_pm3 _ _ _) hP hD hKK hSt hS hA rfl rfl) rfl rfl hl.1 rfl (lv_room (Nat.le_of_ble_eq_true rfl)) dL_isTold_437 ⟨Nat.le_of_ble_eq_true rfl, Nat.le_of_ble_eq_true rfl⟩) hP hD hS hA (ft_pm3 _ _ _) (fun _ => (List.Perm.symm (ft_pm3 _ _ _))) (fun r437 u437 h437 H locs hP hD hS => ?_)
                            have hP : va_P D vwCl ([(t0, .inl (cI, 12, .inl tf2))] ++ (ftCB9 cI cS o0 Ao ((lxTxt u349 to2 no2).1.2.1 0) (lxTxt u349 to2 no2) ++ ftCB9 cI cS p0 Ap (u437.1.2.1 0) u437)) H := hP
                            have hD : va_D A ([(t0, .inl (cI, 12, .inl tf2))] ++ (ftCB9 cI cS o0 Ao ((lxTxt u349 to2 no2).1.2.1 0) (lxTxt u349 to2 no2) ++ ftCB9 cI cS p0 Ap (u437.1.2.1 0) u437)) := hD
                            obtain ⟨hr437, hQ1⟩ := h437
                            have hP : va_P D vwCl ([(t0, .inl (cI, 12, .inl tf2))] ++ (ftCB9 cI cS o0 Ao ((lxTxt u349 to2 no2).1.2.1 0) (lxTxt u349 to2 no2) ++ ftCB9 cI cS p0 Ap ((lxTxt u437 tp1 np1).1.2.1 0) (lxTxt u437 tp1 np1))) H := (by rw [← lxQ_self hQ1]; exact hP)
                            have hD : va_D A ([(t0, .inl (cI, 12, .inl tf2))] ++ (ftCB9 cI cS o0 Ao ((lxTxt u349 to2 no2).1.2.1 0) (lxTxt u349 to2 no2) ++ ftCB9 cI cS p0 Ap ((lxTxt u437 tp1 np1).1.2.1 0) (lxTxt u437 tp1 np1))) := (by rw [← lxQ_self hQ1]; exact hD)
                            have hQc : ∀ (ty : Nat → Int32) (tm : Nat), tm ≤ 120 → lxQ (lxTxt u437 ty tm) wp9 ty tm := fun _ _ h9 => lxQ_txt hQ1 h9
                            subst hr437
                            refine ft_top (y := (-1000002)) (lx_adn hEq9 (by omega) hfit htk).2 ?_
                            refine lv_istore (lv' := [(15, .int (-1000002)), (14, .int (nI no9)), (0, .ref o0), (1, .ref p0), (2, .ref t0), (3, .int (nI C)), (4, .int (nI V2)), (5, .int (nI N9)), (6, .int (nI LN)), (7, .int 1), (8, .int (nI kk)), (9, .int (nI kd)), (10, .int (nI pl)), (11, .int lo), (12, .int fl), (13, .int (ftB (lxPl mo (nI pl))))]) hx hb dL_isTold_440 hl (by decide) rfl (fun ls hl => ?_)
                            refine lv_iload hx hb dL_isTold_442 (lv_at hl 15 rfl) ?_
                            refine lv_if_eq (tgt := 512) hx hb dL_isTold_444 (by decide) (fun c444 => ?_) (fun c444 => ?_)
                            · replace c444 := ftB_eq c444
                              exact absurd htk c444
                            · replace c444 := ftB_ne c444
                              refine lv_iload hx hb dL_isTold_447 (lv_at hl 9 rfl) ?_
                              refine lv_if_eq (tgt := 510) hx hb dL_isTold_449 (by decide) (fun c449 => ?_) (fun c449 => ?_)
                              · exact absurd c449 (by decide)
                              · refine lv_iload hx hb dL_isTold_452 (lv_at hl 0 rfl) ?_
                                refine lv_ldc (v := (-1000002)) hx hb hown (hts (.constant RL 66 (-1000002)) (by decide +kernel)) dL_isTold_454 ?_
                                refine lv_icmp_ne (tgt := 510) hx hb dL_isTold_456 (by decide) (fun c456 => ?_) (fun c456 => ?_)
                                · exact absurd (by decide) c456
                                · refine lv_aload_n hx hb dL_isTold_459 rfl (lv_at hl 2 rfl) ?_
                                  refine lv_iconst (v := 0) hx hb dL_isTold_460 (by decide) ?_
                                  refine ft_callB (X := (ftCB9 cI cS o0 Ao ((lxTxt u349 to2 no2).1.2.1 0) (lxTxt u349 to2 no2))) (Y := ([(t0, .inl (cI, 12, .inl tf2))] ++ ftCB9 cI cS p0 Ap ((lxTxt u437 tp1 np1).1.2.1 0) (lxTxt u437 tp1 np1))) (X1 := fun (u461 : ftCdT) => (ftCB9 cI cS o0 Ao (u461.1.2.1 0) u461)) (ws1 := fun (u461 : ftCdT) => ([(t0, .inl (cI, 12, .inl tf2))] ++ (ftCB9 cI cS o0 Ao (u461.1.2.1 0) u461 ++ ftCB9 cI cS p0 Ap ((lxTxt u437 tp1 np1).1.2.1 0) (lxTxt u437 tp1 np1)))) (va_runV (C := RX10) (As := [.int 0]) (rest := []) ⟨hx, hb, hml, hown, hts⟩ (eo_fault l D cI cS H.size sK sV o0 Ao (lxTxt u349 to2 no2) k w z hm to2 no2 0 (by omega) (hOc _ _ (by omega))) (cwV 1 hts gL_isTold_X10_fault rfl rfl rfl (by decide +kernel) ⟨Nat.le_of_ble_eq_true rfl, Nat.le_of_ble_eq_true rfl⟩) (ft_preB (ci := 10) (List.perm_append_comm_assoc _ _ _) hP hD hKK hSt hS hA rfl rfl) rfl rfl hl.1 rfl (lv_room (Nat.le_of_ble_eq_true rfl)) dL_isTold_461 ⟨Nat.le_of_ble_eq_true rfl, Nat.le_of_ble_eq_true rfl⟩) hP hD hS hA (List.perm_append_comm_assoc _ _ _) (fun _ => (List.Perm.symm (List.perm_append_comm_assoc _ _ _))) (fun r461 u461 h461 H locs hP hD hS => ?_)
                                  have hP : va_P D vwCl ([(t0, .inl (cI, 12, .inl tf2))] ++ (ftCB9 cI cS o0 Ao (u461.1.2.1 0) u461 ++ ftCB9 cI cS p0 Ap ((lxTxt u437 tp1 np1).1.2.1 0) (lxTxt u437 tp1 np1))) H := hP
                                  have hD : va_D A ([(t0, .inl (cI, 12, .inl tf2))] ++ (ftCB9 cI cS o0 Ao (u461.1.2.1 0) u461 ++ ftCB9 cI cS p0 Ap ((lxTxt u437 tp1 np1).1.2.1 0) (lxTxt u437 tp1 np1))) := hD
                                  obtain ⟨hr461, hO1⟩ := h461
                                  have hP : va_P D vwCl ([(t0, .inl (cI, 12, .inl tf2))] ++ (ftCB9 cI cS o0 Ao ((lxTxt u461 to2 no2).1.2.1 0) (lxTxt u461 to2 no2) ++ ftCB9 cI cS p0 Ap ((lxTxt u437 tp1 np1).1.2.1 0) (lxTxt u437 tp1 np1))) H := (by rw [← lxO_self hO1]; exact hP)
                                  have hD : va_D A ([(t0, .inl (cI, 12, .inl tf2))] ++ (ftCB9 cI cS o0 Ao ((lxTxt u461 to2 no2).1.2.1 0) (lxTxt u461 to2 no2) ++ ftCB9 cI cS p0 Ap ((lxTxt u437 tp1 np1).1.2.1 0) (lxTxt u437 tp1 np1))) := (by rw [← lxO_self hO1]; exact hD)
                                  have hOc : ∀ (ty : Nat → Int32) (tm : Nat), tm ≤ 120 → lxO k (lxTxt u461 ty tm) w z hm ty tm := fun _ _ h9 => lxO_txt hO1 h9
                                  have e461 : r461 = nI no9 := lx_fa0 hr461 hfl4
                                  subst e461
                                  refine lv_iload hx hb dL_isTold_464 (lv_at hl 1 rfl) ?_
                                  refine lv_icmp_ne (tgt := 510) hx hb dL_isTold_466 (by decide) (fun c466 => ?_) (fun c466 => ?_)
                                  · have c466n : no9 ≠ no9 := ft_neN (by omega) (by omega) c466
                                    exact absurd rfl c466
                                  · have c466n : no9 = no9 := ft_eqN (by omega) (by omega) c466
                                    refine lv_aload_n hx hb dL_isTold_469 rfl (lv_at hl 2 rfl) ?_
                                    refine lv_iconst (v := 1) hx hb dL_isTold_470 (by decide) ?_
                                    refine ft_callB (X := (ftCB9 cI cS o0 Ao ((lxTxt u461 to2 no2).1.2.1 0) (lxTxt u461 to2 no2))) (Y := ([(t0, .inl (cI, 12, .inl tf2))] ++ ftCB9 cI cS p0 Ap ((lxTxt u437 tp1 np1).1.2.1 0) (lxTxt u437 tp1 np1))) (X1 := fun (u471 : ftCdT) => (ftCB9 cI cS o0 Ao (u471.1.2.1 0) u471)) (ws1 := fun (u471 : ftCdT) => ([(t0, .inl (cI, 12, .inl tf2))] ++ (ftCB9 cI cS o0 Ao (u471.1.2.1 0) u471 ++ ftCB9 cI cS p0 Ap ((lxTxt u437 tp1 np1).1.2.1 0) (lxTxt u437 tp1 np1)))) (va_runV (C := RX10) (As := [.int 1]) (rest := []) ⟨hx, hb, hml, hown, hts⟩ (eo_fault l D cI cS H.size sK sV o0 Ao (lxTxt u461 to2 no2) k w z hm to2 no2 1 (by omega) (hOc _ _ (by omega))) (cwV 1 hts gL_isTold_X10_fault rfl rfl rfl (by decide +kernel) ⟨Nat.le_of_ble_eq_true rfl, Nat.le_of_ble_eq_true rfl⟩) (ft_preB (ci := 10) (List.perm_append_comm_assoc _ _ _) hP hD hKK hSt hS hA rfl rfl) rfl rfl hl.1 rfl (lv_room (Nat.le_of_ble_eq_true rfl)) dL_isTold_471 ⟨Nat.le_of_ble_eq_true rfl, Nat.le_of_ble_eq_true rfl⟩) hP hD hS hA (List.perm_append_comm_assoc _ _ _) (fun _ => (List.Perm.symm (List.perm_append_comm_assoc _ _ _))) (fun r471 u471 h471 H locs hP hD hS => ?_)
                                    have hP : va_P D vwCl ([(t0, .inl (cI, 12, .inl tf2))] ++ (ftCB9 cI cS o0 Ao (u471.1.2.1 0) u471 ++ ftCB9 cI cS p0 Ap ((lxTxt u437 tp1 np1).1.2.1 0) (lxTxt u437 tp1 np1))) H := hP
                                    have hD : va_D A ([(t0, .inl (cI, 12, .inl tf2))] ++ (ftCB9 cI cS o0 Ao (u471.1.2.1 0) u471 ++ ftCB9 cI cS p0 Ap ((lxTxt u437 tp1 np1).1.2.1 0) (lxTxt u437 tp1 np1))) := hD
                                    obtain ⟨hr471, hO1⟩ := h471
                                    have hP : va_P D vwCl ([(t0, .inl (cI, 12, .inl tf2))] ++ (ftCB9 cI cS o0 Ao ((lxTxt u471 to2 no2).1.2.1 0) (lxTxt u471 to2 no2) ++ ftCB9 cI cS p0 Ap ((lxTxt u437 tp1 np1).1.2.1 0) (lxTxt u437 tp1 np1))) H := (by rw [← lxO_self hO1]; exact hP)
                                    have hD : va_D A ([(t0, .inl (cI, 12, .inl tf2))] ++ (ftCB9 cI cS o0 Ao ((lxTxt u471 to2 no2).1.2.1 0) (lxTxt u471 to2 no2) ++ ftCB9 cI cS p0 Ap ((lxTxt u437 tp1 np1).1.2.1 0) (lxTxt u437 tp1 np1))) := (by rw [← lxO_self hO1]; exact hD)
                                    have hOc : ∀ (ty : Nat → Int32) (tm : Nat), tm ≤ 120 → lxO k (lxTxt u471 ty tm) w z hm ty tm := fun _ _ h9 => lxO_txt hO1 h9
                                    have e471 : r471 = 4 := lx_fa1 hr471 hfl4
                                    subst e471
                                    refine lv_iconst (v := 4) hx hb dL_isTold_474 (by decide) ?_
                                    refine lv_icmp_ne (tgt := 510) hx hb dL_isTold_475 (by decide) (fun c475 => ?_) (fun c475 => ?_)
                                    · exact absurd (by decide) c475
                                    · refine lv_aload_n hx hb dL_isTold_478 rfl (lv_at hl 2 rfl) ?_
                                      refine lv_iconst (v := 2) hx hb dL_isTold_479 (by decide) ?_
                                      refine ft_callB (X := (ftCB9 cI cS o0 Ao ((lxTxt u471 to2 no2).1.2.1 0) (lxTxt u471 to2 no2))) (Y := ([(t0, .inl (cI, 12, .inl tf2))] ++ ftCB9 cI cS p0 Ap ((lxTxt u437 tp1 np1).1.2.1 0) (lxTxt u437 tp1 np1))) (X1 := fun (u480 : ftCdT) => (ftCB9 cI cS o0 Ao (u480.1.2.1 0) u480)) (ws1 := fun (u480 : ftCdT) => ([(t0, .inl (cI, 12, .inl tf2))] ++ (ftCB9 cI cS o0 Ao (u480.1.2.1 0) u480 ++ ftCB9 cI cS p0 Ap ((lxTxt u437 tp1 np1).1.2.1 0) (lxTxt u437 tp1 np1)))) (va_runV (C := RX10) (As := [.int 2]) (rest := []) ⟨hx, hb, hml, hown, hts⟩ (eo_fault l D cI cS H.size sK sV o0 Ao (lxTxt u471 to2 no2) k w z hm to2 no2 2 (by omega) (hOc _ _ (by omega))) (cwV 1 hts gL_isTold_X10_fault rfl rfl rfl (by decide +kernel) ⟨Nat.le_of_ble_eq_true rfl, Nat.le_of_ble_eq_true rfl⟩) (ft_preB (ci := 10) (List.perm_append_comm_assoc _ _ _) hP hD hKK hSt hS hA rfl rfl) rfl rfl hl.1 rfl (lv_room (Nat.le_of_ble_eq_true rfl)) dL_isTold_480 ⟨Nat.le_of_ble_eq_true rfl, Nat.le_of_ble_eq_true rfl⟩) hP hD hS hA (List.perm_append_comm_assoc _ _ _) (fun _ => (List.Perm.symm (List.perm_append_comm_assoc _ _ _))) (fun r480 u480 h480 H locs hP hD hS => ?_)
                                      have hP : va_P D vwCl ([(t0, .inl (cI, 12, .inl tf2))] ++ (ftCB9 cI cS o0 Ao (u480.1.2.1 0) u480 ++ ftCB9 cI cS p0 Ap ((lxTxt u437 tp1 np1).1.2.1 0) (lxTxt u437 tp1 np1))) H := hP
                                      have hD : va_D A ([(t0, .inl (cI, 12, .inl tf2))] ++ (ftCB9 cI cS o0 Ao (u480.1.2.1 0) u480 ++ ftCB9 cI cS p0 Ap ((lxTxt u437 tp1 np1).1.2.1 0) (lxTxt u437 tp1 np1))) := hD
                                      obtain ⟨hr480, hO1⟩ := h480
                                      have hP : va_P D vwCl ([(t0, .inl (cI, 12, .inl tf2))] ++ (ftCB9 cI cS o0 Ao ((lxTxt u480 to2 no2).1.2.1 0) (lxTxt u480 to2 no2) ++ ftCB9 cI cS p0 Ap ((lxTxt u437 tp1 np1).1.2.1 0) (lxTxt u437 tp1 np1))) H := (by rw [← lxO_self hO1]; exact hP)
                                      have hD : va_D A ([(t0, .inl (cI, 12, .inl tf2))] ++ (ftCB9 cI cS o0 Ao ((lxTxt u480 to2 no2).1.2.1 0) (lxTxt u480 to2 no2) ++ ftCB9 cI cS p0 Ap ((lxTxt u437 tp1 np1).1.2.1 0) (lxTxt u437 tp1 np1))) := (by rw [← lxO_self hO1]; exact hD)
                                      have hOc : ∀ (ty : Nat → Int32) (tm : Nat), tm ≤ 120 → lxO k (lxTxt u480 ty tm) w z hm ty tm := fun _ _ h9 => lxO_txt hO1 h9
                                      have e480 : r480 = nI (ftNs (nI (3 + kd))) := lx_fa2 hr480 hfl4
                                      subst e480
                                      refine lv_iload hx hb dL_isTold_483 (lv_at hl 11 rfl) ?_
                                      refine lv_iconst (v := 1) hx hb dL_isTold_485 (by decide) ?_
                                      refine lv_icmp_ne (tgt := 493) hx hb dL_isTold_486 (by decide) (fun c486 => ?_) (fun c486 => ?_)
                                      · have c486n : kd ≠ 1 := ft_neN (by omega) (by omega) c486
                                        refine lv_iconst (v := 2) hx hb dL_isTold_493 (by decide) ?_
                                        refine lv_icmp_ne (tgt := 510) hx hb dL_isTold_494 (by decide) (fun c494 => ?_) (fun c494 => ?_)
                                        · have c494n : (ftNs (nI (3 + kd))) ≠ 2 := ft_neN (by omega) (by omega) c494
                                          exact absurd (by first | exact lx_ns3 c486n | exact lx_ns2 hkd3 c486n) c494
                                        · have c494n : (ftNs (nI (3 + kd))) = 2 := ft_eqN (by omega) (by omega) c494
                                          refine lv_aload_n hx hb dL_isTold_497 rfl (lv_at hl 2 rfl) ?_
                                          refine ft_callB (X := (ftCB9 cI cS o0 Ao ((lxTxt u480 to2 no2).1.2.1 0) (lxTxt u480 to2 no2))) (Y := ([(t0, .inl (cI, 12, .inl tf2))] ++ ftCB9 cI cS p0 Ap ((lxTxt u437 tp1 np1).1.2.1 0) (lxTxt u437 tp1 np1))) (X1 := fun (u498 : ftCdT) => (ftCB9 cI cS o0 Ao (u498.1.2.1 0) u498)) (ws1 := fun (u498 : ftCdT) => ([(t0, .inl (cI, 12, .inl tf2))] ++ (ftCB9 cI cS o0 Ao (u498.1.2.1 0) u498 ++ ftCB9 cI cS p0 Ap ((lxTxt u437 tp1 np1).1.2.1 0) (lxTxt u437 tp1 np1)))) (va_runV (C := RX10) (As := []) (rest := []) ⟨hx, hb, hml, hown, hts⟩ (eo_layN l D cI cS H.size sK sV o0 Ao (lxTxt u480 to2 no2) k w z hm to2 no2 (by omega) (hOc _ _ (by omega)) hfl4.1) (cwV 0 hts gL_isTold_X10_lay rfl rfl rfl (by decide +kernel) ⟨Nat.le_of_ble_eq_true rfl, Nat.le_of_ble_eq_true rfl⟩) (ft_preB (ci := 10) (List.perm_append_comm_assoc _ _ _) hP hD hKK hSt hS hA rfl rfl) rfl rfl hl.1 rfl (lv_room (Nat.le_of_ble_eq_true rfl)) dL_isTold_498 ⟨Nat.le_of_ble_eq_true rfl, Nat.le_of_ble_eq_true rfl⟩) hP hD hS hA (List.perm_append_comm_assoc _ _ _) (fun _ => (List.Perm.symm (List.perm_append_comm_assoc _ _ _))) (fun r498 u498 h498 H locs hP hD hS => ?_)
                                          have hP : va_P D vwCl ([(t0, .inl (cI, 12, .inl tf2))] ++ (ftCB9 cI cS o0 Ao (u498.1.2.1 0) u498 ++ ftCB9 cI cS p0 Ap ((lxTxt u437 tp1 np1).1.2.1 0) (lxTxt u437 tp1 np1))) H := hP
                                          have hD : va_D A ([(t0, .inl (cI, 12, .inl tf2))] ++ (ftCB9 cI cS o0 Ao (u498.1.2.1 0) u498 ++ ftCB9 cI cS p0 Ap ((lxTxt u437 tp1 np1).1.2.1 0) (lxTxt u437 tp1 np1))) := hD
                                          obtain ⟨hr498, hO1⟩ := h498
                                          have hP : va_P D vwCl ([(t0, .inl (cI, 12, .inl tf2))] ++ (ftCB9 cI cS o0 Ao ((lxTxt u498 to2 no2).1.2.1 0) (lxTxt u498 to2 no2) ++ ftCB9 cI cS p0 Ap ((lxTxt u437 tp1 np1).1.2.1 0) (lxTxt u437 tp1 np1))) H := (by rw [← lxO_self hO1]; exact hP)
                                          have hD : va_D A ([(t0, .inl (cI, 12, .inl tf2))] ++ (ftCB9 cI cS o0 Ao ((lxTxt u498 to2 no2).1.2.1 0) (lxTxt u498 to2 no2) ++ ftCB9 cI cS p0 Ap ((lxTxt u437 tp1 np1).1.2.1 0) (lxTxt u437 tp1 np1))) := (by rw [← lxO_self hO1]; exact hD)
                                          have hOc : ∀ (ty : Nat → Int32) (tm : Nat), tm ≤ 120 → lxO k (lxTxt u498 ty tm) w z hm ty tm := fun _ _ h9 => lxO_txt hO1 h9
                                          subst hr498
                                          refine lv_ldc (v := (-1000002)) hx hb hown (hts (.constant RL 66 (-1000002)) (by decide +kernel)) dL_isTold_501 ?_
                                          refine lv_icmp_ne (tgt := 510) hx hb dL_isTold_503 (by decide) (fun c503 => ?_) (fun c503 => ?_)
                                          · exact absurd (by decide) c503
                                          · refine lv_iconst (v := 1) hx hb dL_isTold_506 (by decide) ?_
                                            refine lv_goto (tgt := 511) hx hb dL_isTold_507 (by decide) ?_
                                            obtain ⟨u9, hu9⟩ : ∃ u9 : ftCdT × ftCdT × (Nat → Int32), u9 = ((lxTxt u498 to2 no2), (lxTxt u437 tp1 np1), tf2) := ⟨_, rfl⟩
                                            have hw9 : (([(t0, .inl (cI, 12, .inl tf2))] ++ (ftCB9 cI cS o0 Ao ((lxTxt u498 to2 no2).1.2.1 0) (lxTxt u498 to2 no2) ++ ftCB9 cI cS p0 Ap ((lxTxt u437 tp1 np1).1.2.1 0) (lxTxt u437 tp1 np1))) : va_W) = ([(t0, .inl (cI, 12, .inl u9.2.2))] ++ (ftCB9 cI cS o0 Ao (u9.1.1.2.1 0) u9.1 ++ ftCB9 cI cS p0 Ap (u9.2.1.1.2.1 0) u9.2.1)) := by subst hu9; rfl
                                            rw [hw9] at hP hD
                                            have hf9_0 : ∃ w1 z1 h1 t1 n1 wq tq nq x, lxO k u9.1 w1 z1 h1 t1 n1 ∧ lxQ u9.2.1 wq tq nq ∧ (∀ j, j < 11 → w1 (44 + j) = ftW0 (44 + j)) ∧ (∀ j, j < 11 → wq (44 + j) = ftW0 (44 + j)) ∧ lxFr t1 n1 x ∧ (x = 4 ∨ x ≠ 4 ∧ wq = w1 ∧ ftCN w1 < 9) := by rw [hu9]; exact ⟨_, _, _, _, _, _, _, _, 4, hOc _ _ (by omega), hQc _ _ (by omega), hF, hset9, lxFr_F hfl4, Or.inl rfl⟩
                                            have hr9 : (1 : Int32) = 1 := by exact rfl
                                            exact W.zret (v := 1) hx hb hr (by rfl) (fun t ht hW => ⟨⟨1, u9, rfl, ⟨hr9, hf9_0⟩, by rw [ht]; exact hP, by rw [hAe]; exact hD⟩, by rw [hAe]; exact hS.F ht⟩) hS.2.2 dL_isTold_511
                                      · have c486n : kd = 1 := ft_eqN (by omega) (by omega) c486
                                        refine lv_iconst (v := 3) hx hb dL_isTold_489 (by decide) ?_
                                        refine lv_goto (tgt := 494) hx hb dL_isTold_490 (by decide) ?_
                                        refine lv_icmp_ne (tgt := 510) hx hb dL_isTold_494 (by decide) (fun c494 => ?_) (fun c494 => ?_)
                                        · have c494n : (ftNs (nI (3 + kd))) ≠ 3 := ft_neN (by omega) (by omega) c494
                                          exact absurd (by first | exact lx_ns3 c486n | exact lx_ns2 hkd3 c486n) c494
                                        · have c494n : (ftNs (nI (3 + kd))) = 3 := ft_eqN (by omega) (by omega) c494
                                          refine lv_aload_n hx hb dL_isTold_497 rfl (lv_at hl 2 rfl) ?_
                                          refine ft_callB (X := (ftCB9 cI cS o0 Ao ((lxTxt u480 to2 no2).1.2.1 0) (lxTxt u480 to2 no2))) (Y := ([(t0, .inl (cI, 12, .inl tf2))] ++ ftCB9 cI cS p0 Ap ((lxTxt u437 tp1 np1).1.2.1 0) (lxTxt u437 tp1 np1))) (X1 := fun (u498 : ftCdT) => (ftCB9 cI cS o0 Ao (u498.1.2.1 0) u498)) (ws1 := fun (u498 : ftCdT) => ([(t0, .inl (cI, 12, .inl tf2))] ++ (ftCB9 cI cS o0 Ao (u498.1.2.1 0) u498 ++ ftCB9 cI cS p0 Ap ((lxTxt u437 tp1 np1).1.2.1 0) (lxTxt u437 tp1 np1)))) (va_runV (C := RX10) (As := []) (rest := []) ⟨hx, hb, hml, hown, hts⟩ (eo_layN l D cI cS H.size sK sV o0 Ao (lxTxt u480 to2 no2) k w z hm to2 no2 (by omega) (hOc _ _ (by omega)) hfl4.1) (cwV 0 hts gL_isTold_X10_lay rfl rfl rfl (by decide +kernel) ⟨Nat.le_of_ble_eq_true rfl, Nat.le_of_ble_eq_true rfl⟩) (ft_preB (ci := 10) (List.perm_append_comm_assoc _ _ _) hP hD hKK hSt hS hA rfl rfl) rfl rfl hl.1 rfl (lv_room (Nat.le_of_ble_eq_true rfl)) dL_isTold_498 ⟨Nat.le_of_ble_eq_true rfl, Nat.le_of_ble_eq_true rfl⟩) hP hD hS hA (List.perm_append_comm_assoc _ _ _) (fun _ => (List.Perm.symm (List.perm_append_comm_assoc _ _ _))) (fun r498 u498 h498 H locs hP hD hS => ?_)
                                          have hP : va_P D vwCl ([(t0, .inl (cI, 12, .inl tf2))] ++ (ftCB9 cI cS o0 Ao (u498.1.2.1 0) u498 ++ ftCB9 cI cS p0 Ap ((lxTxt u437 tp1 np1).1.2.1 0) (lxTxt u437 tp1 np1))) H := hP
                                          have hD : va_D A ([(t0, .inl (cI, 12, .inl tf2))] ++ (ftCB9 cI cS o0 Ao (u498.1.2.1 0) u498 ++ ftCB9 cI cS p0 Ap ((lxTxt u437 tp1 np1).1.2.1 0) (lxTxt u437 tp1 np1))) := hD
                                          obtain ⟨hr498, hO1⟩ := h498
                                          have hP : va_P D vwCl ([(t0, .inl (cI, 12, .inl tf2))] ++ (ftCB9 cI cS o0 Ao ((lxTxt u498 to2 no2).1.2.1 0) (lxTxt u498 to2 no2) ++ ftCB9 cI cS p0 Ap ((lxTxt u437 tp1 np1).1.2.1 0) (lxTxt u437 tp1 np1))) H := (by rw [← lxO_self hO1]; exact hP)
                                          have hD : va_D A ([(t0, .inl (cI, 12, .inl tf2))] ++ (ftCB9 cI cS o0 Ao ((lxTxt u498 to2 no2).1.2.1 0) (lxTxt u498 to2 no2) ++ ftCB9 cI cS p0 Ap ((lxTxt u437 tp1 np1).1.2.1 0) (lxTxt u437 tp1 np1))) := (by rw [← lxO_self hO1]; exact hD)
                                          have hOc : ∀ (ty : Nat → Int32) (tm : Nat), tm ≤ 120 → lxO k (lxTxt u498 ty tm) w z hm ty tm := fun _ _ h9 => lxO_txt hO1 h9
                                          subst hr498
                                          refine lv_ldc (v := (-1000002)) hx hb hown (hts (.constant RL 66 (-1000002)) (by decide +kernel)) dL_isTold_501 ?_
                                          refine lv_icmp_ne (tgt := 510) hx hb dL_isTold_503 (by decide) (fun c503 => ?_) (fun c503 => ?_)
                                          · exact absurd (by decide) c503
                                          · refine lv_iconst (v := 1) hx hb dL_isTold_506 (by decide) ?_
                                            refine lv_goto (tgt := 511) hx hb dL_isTold_507 (by decide) ?_
                                            obtain ⟨u9, hu9⟩ : ∃ u9 : ftCdT × ftCdT × (Nat → Int32), u9 = ((lxTxt u498 to2 no2), (lxTxt u437 tp1 np1), tf2) := ⟨_, rfl⟩
                                            have hw9 : (([(t0, .inl (cI, 12, .inl tf2))] ++ (ftCB9 cI cS o0 Ao ((lxTxt u498 to2 no2).1.2.1 0) (lxTxt u498 to2 no2) ++ ftCB9 cI cS p0 Ap ((lxTxt u437 tp1 np1).1.2.1 0) (lxTxt u437 tp1 np1))) : va_W) = ([(t0, .inl (cI, 12, .inl u9.2.2))] ++ (ftCB9 cI cS o0 Ao (u9.1.1.2.1 0) u9.1 ++ ftCB9 cI cS p0 Ap (u9.2.1.1.2.1 0) u9.2.1)) := by subst hu9; rfl
                                            rw [hw9] at hP hD
                                            have hf9_0 : ∃ w1 z1 h1 t1 n1 wq tq nq x, lxO k u9.1 w1 z1 h1 t1 n1 ∧ lxQ u9.2.1 wq tq nq ∧ (∀ j, j < 11 → w1 (44 + j) = ftW0 (44 + j)) ∧ (∀ j, j < 11 → wq (44 + j) = ftW0 (44 + j)) ∧ lxFr t1 n1 x ∧ (x = 4 ∨ x ≠ 4 ∧ wq = w1 ∧ ftCN w1 < 9) := by rw [hu9]; exact ⟨_, _, _, _, _, _, _, _, 4, hOc _ _ (by omega), hQc _ _ (by omega), hF, hset9, lxFr_F hfl4, Or.inl rfl⟩
                                            have hr9 : (1 : Int32) = 1 := by exact rfl
                                            exact W.zret (v := 1) hx hb hr (by rfl) (fun t ht hW => ⟨⟨1, u9, rfl, ⟨hr9, hf9_0⟩, by rw [ht]; exact hP, by rw [hAe]; exact hD⟩, by rw [hAe]; exact hS.F ht⟩) hS.2.2 dL_isTold_511
                          · have hq9 := ftPosW_le wp9 (nI pl) (ftCN wp9)
                            refine ft_callB (X := (ftCB9 cI cS p0 Ap ((lxTxt cp9 tp1 np1).1.2.1 0) (lxTxt cp9 tp1 np1))) (Y := ([(t0, .inl (cI, 12, .inl tf2))] ++ ftCB9 cI cS o0 Ao ((lxTxt u349 to2 no2).1.2.1 0) (lxTxt u349 to2 no2))) (X1 := fun (u437 : ftCdT) => (ftCB9 cI cS p0 Ap (u437.1.2.1 0) u437)) (ws1 := fun (u437 : ftCdT) => ([(t0, .inl (cI, 12, .inl tf2))] ++ (ftCB9 cI cS o0 Ao ((lxTxt u349 to2 no2).1.2.1 0) (lxTxt u349 to2 no2) ++ ftCB9 cI cS p0 Ap (u437.1.2.1 0) u437))) (va_runV (C := RX10) (As := [.int (nI kd), .int (nI pl), .int lo, .int fl]) (rest := []) ⟨hx, hb, hml, hown, hts⟩ (ep_addPart l D cI cS H.size sK sV p0 Ap (lxTxt cp9 tp1 np1) wp9 tp1 np1 (nI kd) (nI pl) lo fl (hQc _ _ (by omega)) (lx_adc hEq9 (by omega) hfit htk (ftWf_3 (lxQ_W (hQc (fun _ => 0) 0 (by omega)))))) (cwV 4 hts gL_isTold_X10_addPart rfl rfl rfl (by decide +kernel) ⟨Nat.le_of_ble_eq_true rfl, Nat.le_of_ble_eq_true rfl⟩) (ft_preB (ci := 10) (ft_pm3 _ _ _) hP hD hKK hSt hS hA rfl rfl) rfl rfl hl.1 rfl (lv_room (Nat.le_of_ble_eq_true rfl)) dL_isTold_437 ⟨Nat.le_of_ble_eq_true rfl, Nat.le_of_ble_eq_true rfl⟩) hP hD hS hA (ft_pm3 _ _ _) (fun _ => (List.Perm.symm (ft_pm3 _ _ _))) (fun r437 u437 h437 H locs hP hD hS => ?_)
                            have hP : va_P D vwCl ([(t0, .inl (cI, 12, .inl tf2))] ++ (ftCB9 cI cS o0 Ao ((lxTxt u349 to2 no2).1.2.1 0) (lxTxt u349 to2 no2) ++ ftCB9 cI cS p0 Ap (u437.1.2.1 0) u437)) H := hP
                            have hD : va_D A ([(t0, .inl (cI, 12, .inl tf2))] ++ (ftCB9 cI cS o0 Ao ((lxTxt u349 to2 no2).1.2.1 0) (lxTxt u349 to2 no2) ++ ftCB9 cI cS p0 Ap (u437.1.2.1 0) u437)) := hD
                            obtain ⟨hr437, hQ1, hf437⟩ := h437
                            have hP : va_P D vwCl ([(t0, .inl (cI, 12, .inl tf2))] ++ (ftCB9 cI cS o0 Ao ((lxTxt u349 to2 no2).1.2.1 0) (lxTxt u349 to2 no2) ++ ftCB9 cI cS p0 Ap ((lxTxt u437 tp1 np1).1.2.1 0) (lxTxt u437 tp1 np1))) H := (by rw [← lxQ_self hQ1]; exact hP)
                            have hD : va_D A ([(t0, .inl (cI, 12, .inl tf2))] ++ (ftCB9 cI cS o0 Ao ((lxTxt u349 to2 no2).1.2.1 0) (lxTxt u349 to2 no2) ++ ftCB9 cI cS p0 Ap ((lxTxt u437 tp1 np1).1.2.1 0) (lxTxt u437 tp1 np1))) := (by rw [← lxQ_self hQ1]; exact hD)
                            have hQc : ∀ (ty : Nat → Int32) (tm : Nat), tm ≤ 120 → lxQ (lxTxt u437 ty tm) (ftAdd wp9 (ftCN wp9) (nI kd) (nI pl) lo fl) ty tm := fun _ _ h9 => lxQ_txt hQ1 h9
                            have hfp : u437.1.2.1 3 = 0 := hf437
                            subst hr437
                            refine lv_istore (lv' := [(15, .int (nI (ftPosW wp9 (nI pl) (ftCN wp9)))), (14, .int (nI no9)), (0, .ref o0), (1, .ref p0), (2, .ref t0), (3, .int (nI C)), (4, .int (nI V2)), (5, .int (nI N9)), (6, .int (nI LN)), (7, .int 1), (8, .int (nI kk)), (9, .int (nI kd)), (10, .int (nI pl)), (11, .int lo), (12, .int fl), (13, .int (ftB (lxPl mo (nI pl))))]) hx hb dL_isTold_440 hl (by decide) rfl (fun ls hl => ?_)
                            refine lv_iload hx hb dL_isTold_442 (lv_at hl 15 rfl) ?_
                            refine lv_if_eq (tgt := 512) hx hb dL_isTold_444 (by decide) (fun c444 => ?_) (fun c444 => ?_)
                            · replace c444 := ftB_eq c444
                              refine lv_iload hx hb dL_isTold_512 (lv_at hl 9 rfl) ?_
                              refine lv_if_eq (tgt := 533) hx hb dL_isTold_514 (by decide) (fun c514 => ?_) (fun c514 => ?_)
                              · exact absurd c514 (by decide)
                              · refine lv_iload hx hb dL_isTold_517 (lv_at hl 0 rfl) ?_
                                refine lv_if_lt (tgt := 533) hx hb dL_isTold_519 (by decide) (fun c519 => ?_) (fun c519 => ?_)
                                · exact absurd c519 (nI_pos (by have := ftPosW_le wp9 (nI pl) (ftCN wp9); omega))
                                · refine lv_iload hx hb dL_isTold_522 (lv_at hl 0 rfl) ?_
                                  refine lv_iload hx hb dL_isTold_524 (lv_at hl 10 rfl) ?_
                                  refine lv_icmp_gt (tgt := 533) hx hb dL_isTold_526 (by decide) (fun c526 => ?_) (fun c526 => ?_)
                                  · have c526n : kk < (ftPosW wp9 (nI pl) (ftCN wp9)) := ft_ltN (by omega) (by omega) c526
                                    exact absurd c526n (by have := ftPosW_le wp9 (nI pl) (ftCN wp9); omega)
                                  · have c526n : (ftPosW wp9 (nI pl) (ftCN wp9)) ≤ kk := ft_nltN (by omega) (by omega) c526
                                    refine lv_iconst (v := 1) hx hb dL_isTold_529 (by decide) ?_
                                    refine lv_goto (tgt := 534) hx hb dL_isTold_530 (by decide) ?_
                                    refine lv_istore (lv' := [(7, .int 1), (15, .int (nI (ftPosW wp9 (nI pl) (ftCN wp9)))), (14, .int (nI no9)), (0, .ref o0), (1, .ref p0), (2, .ref t0), (3, .int (nI C)), (4, .int (nI V2)), (5, .int (nI N9)), (6, .int (nI LN)), (8, .int (nI kk)), (9, .int (nI kd)), (10, .int (nI pl)), (11, .int lo), (12, .int fl), (13, .int (ftB (lxPl mo (nI pl))))]) hx hb dL_isTold_534 hl (by decide) rfl (fun ls hl => ?_)
                                    have hm10 : ¬ mo 3 = 10 := fun q => by rw [hm39] at q; have := ft_eqN (a := ftCN mo) (b := 10) (by omega) (by omega) q; omega
                                    have hfl0 : ¬ kd = 1 → fl = 0 := fun q => by rcases hfl2 with r | r; exact absurd r.1 q; exact r.2
                                    refine lv_iinc (v := nI (kk + 1)) (lv' := [(8, .int (nI (kk + 1))), (7, .int 1), (15, .int (nI (ftPosW wp9 (nI pl) (ftCN wp9)))), (14, .int (nI no9)), (0, .ref o0), (1, .ref p0), (2, .ref t0), (3, .int (nI C)), (4, .int (nI V2)), (5, .int (nI N9)), (6, .int (nI LN)), (9, .int (nI kd)), (10, .int (nI pl)), (11, .int lo), (12, .int fl), (13, .int (ftB (lxPl mo (nI pl))))]) hx hb dL_isTold_536 hl (k := 10) rfl (ft_inc kk) (by decide) rfl (fun ls hl => ?_)
                                    refine lv_goto (tgt := 156) hx hb dL_isTold_539 (by decide) ?_
                                    exact ih156 (kk + 1) V2 u349 u437 to2 no2 (K7 + 1) (h7 ||| 2 ^ (3 + kd)) (ftAdd mo (ftCN mo) (nI kd) (nI pl) lo fl) (ftAdd wp9 (ftCN wp9) (nI kd) (nI pl) lo fl) tf2 (nI V2) (nI (kk + 1)) tf2 (by omega) (by omega) (by exact hV2) (by omega) (by exact lx_stepG (lxG_mono hG hag2) (by omega) hI2 hE2 hc2 ⟨lx_rt (v := fun i => lxV (s9 i) (n9 i)) hkd3 hfit hv0 hv1 hv2, (lx_al (by omega) (by omega)).mpr ⟨by rw [hv0]; exact htk, hm10⟩⟩ (lx_mAdd hkd3 hv0 hv1 hv2 hfl0)) (by exact hOc) (by exact hQc) (by exact hfp) (by rw [ftAdd_cn (by omega)]; omega) (by exact lxEq_add hEq9 (by omega)) (by intro j hj; exact (ftAdd_tl (by omega) (by omega)).trans (hset9 j hj)) (by intro x; rw [lxPl_add (by omega)]; exact lx_pls hpl9 (htf1 htk) htf2) (by exact (ftAdd_l (by omega)).trans hm09) (by first | rfl | assumption) (by first | rfl | assumption) (by first | rfl | assumption) _ _ hP hD hS ls (lv_sub hl [4, 5, 6, 7, 8, 9, 10, 1, 0] rfl)
                            · replace c444 := ftB_ne c444
                              exact absurd c444 htk
                        refine lv_aload_n hx hb dL_isTold_354 rfl (lv_at hl 1 rfl) ?_
                        refine lv_iload hx hb dL_isTold_355 (lv_at hl 10 rfl) ?_
                        refine lv_if_ne (tgt := 366) hx hb dL_isTold_357 (by decide) (fun c357 => ?_) (fun c357 => ?_)
                        · have c357n : kd ≠ 0 := ft_neN (by omega) (by omega) c357
                          refine lv_iload hx hb dL_isTold_366 (lv_at hl 10 rfl) ?_
                          refine lv_iconst (v := 1) hx hb dL_isTold_368 (by decide) ?_
                          refine lv_icmp_ne (tgt := 378) hx hb dL_isTold_369 (by decide) (fun c369 => ?_) (fun c369 => ?_)
                          · have c369n : kd ≠ 1 := ft_neN (by omega) (by omega) c369
                            refine lv_ldc2 (v := 109299962373989) hx hb hown (hts (.constantLong RL 64 109299962373989) (by decide +kernel)) dL_isTold_378 ?_
                            refine ft_callBv (X := (ftCB9 cI cS o0 Ao ((lxTxt u349 to9 no9).1.2.1 0) (lxTxt u349 to9 no9))) (Y := ([(t0, .inl (cI, 12, .inl tf2))] ++ ftCB9 cI cS p0 Ap ((lxTxt cp9 tp1 np1).1.2.1 0) (lxTxt cp9 tp1 np1))) (X1 := fun (u381 : ftCdT) => (ftCB9 cI cS o0 Ao (u381.1.2.1 0) u381)) (ws1 := fun (u381 : ftCdT) => ([(t0, .inl (cI, 12, .inl tf2))] ++ (ftCB9 cI cS o0 Ao (u381.1.2.1 0) u381 ++ ftCB9 cI cS p0 Ap ((lxTxt cp9 tp1 np1).1.2.1 0) (lxTxt cp9 tp1 np1)))) (va_runS (As := [.ref o0, .long 109299962373989]) (rest := []) ⟨hx, hb, hml, hown, hts⟩ (c_L_word l D cI cS H.size sK sV o0 Ao (lxTxt u349 to9 no9) 109299962373989 6 (lxWf 5) lxWd_5 (show no9 + 6 ≤ 120 by omega)) (va_cwS 2 hts gL_isTold_L_word rfl rfl rfl (by decide +kernel) ⟨Nat.le_of_ble_eq_true rfl, Nat.le_of_ble_eq_true rfl⟩) (ft_preBS (List.perm_append_comm_assoc _ _ _) hP hD hKK hSt hS hA) rfl rfl hl.1 rfl (lv_room (Nat.le_of_ble_eq_true rfl)) dL_isTold_381 ⟨Nat.le_of_ble_eq_true rfl, Nat.le_of_ble_eq_true rfl⟩) hP hD hS hA (List.perm_append_comm_assoc _ _ _) (fun _ => (List.Perm.symm (List.perm_append_comm_assoc _ _ _))) (fun u381 h381 H locs hP hD hS => ?_)
                            have hP : va_P D vwCl ([(t0, .inl (cI, 12, .inl tf2))] ++ (ftCB9 cI cS o0 Ao (u381.1.2.1 0) u381 ++ ftCB9 cI cS p0 Ap ((lxTxt cp9 tp1 np1).1.2.1 0) (lxTxt cp9 tp1 np1))) H := hP
                            have hD : va_D A ([(t0, .inl (cI, 12, .inl tf2))] ++ (ftCB9 cI cS o0 Ao (u381.1.2.1 0) u381 ++ ftCB9 cI cS p0 Ap ((lxTxt cp9 tp1 np1).1.2.1 0) (lxTxt cp9 tp1 np1))) := hD
                            have hu381 := h381
                            subst hu381
                            have hP : va_P D vwCl ([(t0, .inl (cI, 12, .inl tf2))] ++ (ftCB9 cI cS o0 Ao ((lxTxt u349 (lxTy (lxWf 5) to9 no9 6) (no9 + 6)).1.2.1 0) (lxTxt u349 (lxTy (lxWf 5) to9 no9 6) (no9 + 6)) ++ ftCB9 cI cS p0 Ap ((lxTxt cp9 tp1 np1).1.2.1 0) (lxTxt cp9 tp1 np1))) H := hP
                            have hD : va_D A ([(t0, .inl (cI, 12, .inl tf2))] ++ (ftCB9 cI cS o0 Ao ((lxTxt u349 (lxTy (lxWf 5) to9 no9 6) (no9 + 6)).1.2.1 0) (lxTxt u349 (lxTy (lxWf 5) to9 no9 6) (no9 + 6)) ++ ftCB9 cI cS p0 Ap ((lxTxt cp9 tp1 np1).1.2.1 0) (lxTxt cp9 tp1 np1))) := hD
                            refine lv_iload hx hb dL_isTold_384 (lv_at hl 10 rfl) ?_
                            refine lv_iconst (v := 1) hx hb dL_isTold_386 (by decide) ?_
                            refine lv_icmp_ne (tgt := 397) hx hb dL_isTold_387 (by decide) (fun c387 => ?_) (fun c387 => ?_)
                            · have c387n : kd ≠ 1 := ft_neN (by omega) (by omega) c387
                              refine lv_aload_n hx hb dL_isTold_397 rfl (lv_at hl 1 rfl) ?_
                              refine lv_iload hx hb dL_isTold_398 (lv_at hl 11 rfl) ?_
                              refine ft_callBv (X := (ftCB9 cI cS o0 Ao ((lxTxt u349 (lxTy (lxWf 5) to9 no9 6) (no9 + 6)).1.2.1 0) (lxTxt u349 (lxTy (lxWf 5) to9 no9 6) (no9 + 6)))) (Y := ([(t0, .inl (cI, 12, .inl tf2))] ++ ftCB9 cI cS p0 Ap ((lxTxt cp9 tp1 np1).1.2.1 0) (lxTxt cp9 tp1 np1))) (X1 := fun (u400 : ftCdT) => (ftCB9 cI cS o0 Ao (u400.1.2.1 0) u400)) (ws1 := fun (u400 : ftCdT) => ([(t0, .inl (cI, 12, .inl tf2))] ++ (ftCB9 cI cS o0 Ao (u400.1.2.1 0) u400 ++ ftCB9 cI cS p0 Ap ((lxTxt cp9 tp1 np1).1.2.1 0) (lxTxt cp9 tp1 np1)))) (va_runS (As := [.ref o0, .int (nI pl)]) (rest := []) ⟨hx, hb, hml, hown, hts⟩ (c_L_numberP l D cI cS H.size sK sV o0 Ao (lxTxt u349 (lxTy (lxWf 5) to9 no9 6) (no9 + 6)) pl (by omega) (show no9 + 6 + 7 ≤ 120 by omega)) (va_cwS 2 hts gL_isTold_L_number rfl rfl rfl (by decide +kernel) ⟨Nat.le_of_ble_eq_true rfl, Nat.le_of_ble_eq_true rfl⟩) (ft_preBS (List.perm_append_comm_assoc _ _ _) hP hD hKK hSt hS hA) rfl rfl hl.1 rfl (lv_room (Nat.le_of_ble_eq_true rfl)) dL_isTold_400 ⟨Nat.le_of_ble_eq_true rfl, Nat.le_of_ble_eq_true rfl⟩) hP hD hS hA (List.perm_append_comm_assoc _ _ _) (fun _ => (List.Perm.symm (List.perm_append_comm_assoc _ _ _))) (fun u400 h400 H locs hP hD hS => ?_)
                              have hP : va_P D vwCl ([(t0, .inl (cI, 12, .inl tf2))] ++ (ftCB9 cI cS o0 Ao (u400.1.2.1 0) u400 ++ ftCB9 cI cS p0 Ap ((lxTxt cp9 tp1 np1).1.2.1 0) (lxTxt cp9 tp1 np1))) H := hP
                              have hD : va_D A ([(t0, .inl (cI, 12, .inl tf2))] ++ (ftCB9 cI cS o0 Ao (u400.1.2.1 0) u400 ++ ftCB9 cI cS p0 Ap ((lxTxt cp9 tp1 np1).1.2.1 0) (lxTxt cp9 tp1 np1))) := hD
                              obtain ⟨d400, t400, hu400, hn400, ha400⟩ := h400
                              subst hu400
                              have hP : va_P D vwCl ([(t0, .inl (cI, 12, .inl tf2))] ++ (ftCB9 cI cS o0 Ao ((lxTxt u349 t400 (no9 + 6 + 1 + d400)).1.2.1 0) (lxTxt u349 t400 (no9 + 6 + 1 + d400)) ++ ftCB9 cI cS p0 Ap ((lxTxt cp9 tp1 np1).1.2.1 0) (lxTxt cp9 tp1 np1))) H := hP
                              have hD : va_D A ([(t0, .inl (cI, 12, .inl tf2))] ++ (ftCB9 cI cS o0 Ao ((lxTxt u349 t400 (no9 + 6 + 1 + d400)).1.2.1 0) (lxTxt u349 t400 (no9 + 6 + 1 + d400)) ++ ftCB9 cI cS p0 Ap ((lxTxt cp9 tp1 np1).1.2.1 0) (lxTxt cp9 tp1 np1))) := hD
                              have hn400 : lxN t400 (no9 + 6) 1 d400 pl := hn400
                              have ha400 : ∀ t, t < no9 + 6 → t400 t = (lxTy (lxWf 5) to9 no9 6) t := ha400
                              have hd400 : 1 ≤ d400 ∧ d400 ≤ 5 := ⟨hn400.2.2.1, hn400.2.2.2.1⟩
                              refine lv_aload_n hx hb dL_isTold_403 rfl (lv_at hl 1 rfl) ?_
                              rcases Classical.em (sl = 1) with hs1 | hs1
                              · have hloP : lo = nI nl := by rw [hlo1, hs1]; exact lxV_1 nl
                                refine lv_iload hx hb dL_isTold_404 (lv_at hl 12 rfl) ?_
                                refine ft_top (y := nI nl) hloP ?_
                                refine ft_callBv (X := (ftCB9 cI cS o0 Ao ((lxTxt u349 t400 (no9 + 6 + 1 + d400)).1.2.1 0) (lxTxt u349 t400 (no9 + 6 + 1 + d400)))) (Y := ([(t0, .inl (cI, 12, .inl tf2))] ++ ftCB9 cI cS p0 Ap ((lxTxt cp9 tp1 np1).1.2.1 0) (lxTxt cp9 tp1 np1))) (X1 := fun (u406 : ftCdT) => (ftCB9 cI cS o0 Ao (u406.1.2.1 0) u406)) (ws1 := fun (u406 : ftCdT) => ([(t0, .inl (cI, 12, .inl tf2))] ++ (ftCB9 cI cS o0 Ao (u406.1.2.1 0) u406 ++ ftCB9 cI cS p0 Ap ((lxTxt cp9 tp1 np1).1.2.1 0) (lxTxt cp9 tp1 np1)))) (va_runS (As := [.ref o0, .int (nI nl)]) (rest := []) ⟨hx, hb, hml, hown, hts⟩ (c_L_numberP l D cI cS H.size sK sV o0 Ao (lxTxt u349 t400 (no9 + 6 + 1 + d400)) nl (by omega) (show no9 + 6 + 1 + d400 + 7 ≤ 120 by omega)) (va_cwS 2 hts gL_isTold_L_number rfl rfl rfl (by decide +kernel) ⟨Nat.le_of_ble_eq_true rfl, Nat.le_of_ble_eq_true rfl⟩) (ft_preBS (List.perm_append_comm_assoc _ _ _) hP hD hKK hSt hS hA) rfl rfl hl.1 rfl (lv_room (Nat.le_of_ble_eq_true rfl)) dL_isTold_406 ⟨Nat.le_of_ble_eq_true rfl, Nat.le_of_ble_eq_true rfl⟩) hP hD hS hA (List.perm_append_comm_assoc _ _ _) (fun _ => (List.Perm.symm (List.perm_append_comm_assoc _ _ _))) (fun u406 h406 H locs hP hD hS => ?_)
                                have hP : va_P D vwCl ([(t0, .inl (cI, 12, .inl tf2))] ++ (ftCB9 cI cS o0 Ao (u406.1.2.1 0) u406 ++ ftCB9 cI cS p0 Ap ((lxTxt cp9 tp1 np1).1.2.1 0) (lxTxt cp9 tp1 np1))) H := hP
                                have hD : va_D A ([(t0, .inl (cI, 12, .inl tf2))] ++ (ftCB9 cI cS o0 Ao (u406.1.2.1 0) u406 ++ ftCB9 cI cS p0 Ap ((lxTxt cp9 tp1 np1).1.2.1 0) (lxTxt cp9 tp1 np1))) := hD
                                obtain ⟨d406, t406, hu406, hn406, ha406⟩ := h406
                                subst hu406
                                have hP : va_P D vwCl ([(t0, .inl (cI, 12, .inl tf2))] ++ (ftCB9 cI cS o0 Ao ((lxTxt u349 t406 (no9 + 6 + 1 + d400 + 1 + d406)).1.2.1 0) (lxTxt u349 t406 (no9 + 6 + 1 + d400 + 1 + d406)) ++ ftCB9 cI cS p0 Ap ((lxTxt cp9 tp1 np1).1.2.1 0) (lxTxt cp9 tp1 np1))) H := hP
                                have hD : va_D A ([(t0, .inl (cI, 12, .inl tf2))] ++ (ftCB9 cI cS o0 Ao ((lxTxt u349 t406 (no9 + 6 + 1 + d400 + 1 + d406)).1.2.1 0) (lxTxt u349 t406 (no9 + 6 + 1 + d400 + 1 + d406)) ++ ftCB9 cI cS p0 Ap ((lxTxt cp9 tp1 np1).1.2.1 0) (lxTxt cp9 tp1 np1))) := hD
                                have hn406 : lxN t406 (no9 + 6 + 1 + d400) 1 d406 nl := hn406
                                have ha406 : ∀ t, t < no9 + 6 + 1 + d400 → t406 t = t400 t := ha406
                                have hd406 : 1 ≤ d406 ∧ d406 ≤ 5 := ⟨hn406.2.2.1, hn406.2.2.2.1⟩
                                refine lv_iload hx hb dL_isTold_409 (lv_at hl 10 rfl) ?_
                                refine lv_iconst (v := 1) hx hb dL_isTold_411 (by decide) ?_
                                refine lv_icmp_ne (tgt := 421) hx hb dL_isTold_412 (by decide) (fun c412 => ?_) (fun c412 => ?_)
                                · have c412n : kd ≠ 1 := ft_neN (by omega) (by omega) c412
                                  refine lv_aload_n hx hb dL_isTold_421 rfl (lv_at hl 1 rfl) ?_
                                  refine lv_bipush (v := 59) hx hb dL_isTold_422 (by decide) ?_
                                  refine ft_callB (X := (ftCB9 cI cS o0 Ao ((lxTxt u349 t406 (no9 + 6 + 1 + d400 + 1 + d406)).1.2.1 0) (lxTxt u349 t406 (no9 + 6 + 1 + d400 + 1 + d406)))) (Y := ([(t0, .inl (cI, 12, .inl tf2))] ++ ftCB9 cI cS p0 Ap ((lxTxt cp9 tp1 np1).1.2.1 0) (lxTxt cp9 tp1 np1))) (X1 := fun (u424 : ftCdT) => (ftCB9 cI cS o0 Ao (u424.1.2.1 0) u424)) (ws1 := fun (u424 : ftCdT) => ([(t0, .inl (cI, 12, .inl tf2))] ++ (ftCB9 cI cS o0 Ao (u424.1.2.1 0) u424 ++ ftCB9 cI cS p0 Ap ((lxTxt cp9 tp1 np1).1.2.1 0) (lxTxt cp9 tp1 np1)))) (va_runV (C := RX10) (As := [.int 59]) (rest := []) ⟨hx, hb, hml, hown, hts⟩ (et_type l D cI cS H.size sK sV o0 Ao (lxTxt u349 t406 (no9 + 6 + 1 + d400 + 1 + d406)) 59 (by decide) (show no9 + 6 + 1 + d400 + 1 + d406 < 120 by omega)) (cwV 1 hts gL_isTold_X10_type rfl rfl rfl (by decide +kernel) ⟨Nat.le_of_ble_eq_true rfl, Nat.le_of_ble_eq_true rfl⟩) (ft_preB (ci := 10) (List.perm_append_comm_assoc _ _ _) hP hD hKK hSt hS hA rfl rfl) rfl rfl hl.1 rfl (lv_room (Nat.le_of_ble_eq_true rfl)) dL_isTold_424 ⟨Nat.le_of_ble_eq_true rfl, Nat.le_of_ble_eq_true rfl⟩) hP hD hS hA (List.perm_append_comm_assoc _ _ _) (fun _ => (List.Perm.symm (List.perm_append_comm_assoc _ _ _))) (fun r424 u424 h424 H locs hP hD hS => ?_)
                                  have hP : va_P D vwCl ([(t0, .inl (cI, 12, .inl tf2))] ++ (ftCB9 cI cS o0 Ao (u424.1.2.1 0) u424 ++ ftCB9 cI cS p0 Ap ((lxTxt cp9 tp1 np1).1.2.1 0) (lxTxt cp9 tp1 np1))) H := hP
                                  have hD : va_D A ([(t0, .inl (cI, 12, .inl tf2))] ++ (ftCB9 cI cS o0 Ao (u424.1.2.1 0) u424 ++ ftCB9 cI cS p0 Ap ((lxTxt cp9 tp1 np1).1.2.1 0) (lxTxt cp9 tp1 np1))) := hD
                                  obtain ⟨hr424, hu424⟩ := h424
                                  subst hu424
                                  have hP : va_P D vwCl ([(t0, .inl (cI, 12, .inl tf2))] ++ (ftCB9 cI cS o0 Ao ((lxTxt u349 (upd t406 (no9 + 6 + 1 + d400 + 1 + d406) 59) (no9 + 6 + 1 + d400 + 1 + d406 + 1)).1.2.1 0) (lxTxt u349 (upd t406 (no9 + 6 + 1 + d400 + 1 + d406) 59) (no9 + 6 + 1 + d400 + 1 + d406 + 1)) ++ ftCB9 cI cS p0 Ap ((lxTxt cp9 tp1 np1).1.2.1 0) (lxTxt cp9 tp1 np1))) H := hP
                                  have hD : va_D A ([(t0, .inl (cI, 12, .inl tf2))] ++ (ftCB9 cI cS o0 Ao ((lxTxt u349 (upd t406 (no9 + 6 + 1 + d400 + 1 + d406) 59) (no9 + 6 + 1 + d400 + 1 + d406 + 1)).1.2.1 0) (lxTxt u349 (upd t406 (no9 + 6 + 1 + d400 + 1 + d406) 59) (no9 + 6 + 1 + d400 + 1 + d406 + 1)) ++ ftCB9 cI cS p0 Ap ((lxTxt cp9 tp1 np1).1.2.1 0) (lxTxt cp9 tp1 np1))) := hD
                                  refine lv_pop hx hb dL_isTold_427 rfl ?_
                                  have hk9 : kd = 2 := by omega
                                  obtain ⟨S9, D9, N8, hi1, he1, hv1, hv2⟩ := lx_it2 (j := 5) (p := no9) hn400 ha400 hn406 ha406
                                  obtain ⟨hi2, hc9⟩ := lx_end hi1 he1
                                  exact jn428 (upd t406 (no9 + 6 + 1 + d400 + 1 + d406) 59) (no9 + 6 + 1 + d400 + 1 + d406 + 1) S9 D9 N8 (by omega) (by intro t ht; rw [ftUpd_ne (by omega), ha406 t (by omega), ha400 t (by omega)]; exact lxTy_lo ht) (by rw [hk9]; exact hi2) (by rw [hk9]; exact congrArg Nat.succ he1) (by rw [hk9]; exact hc9) (by exact hv1.trans (lxV_1 _)) (by exact hv2.trans ((lxV_1 nl).trans hloP.symm)) (by intro q; exact absurd q (by omega)) _ _ hP hD hS ls (lv_sub hl [0, 1, 2, 3, 4, 5, 6, 7, 8, 9, 10, 11, 12, 13, 14] rfl)
                                · have c412n : kd = 1 := ft_eqN (by omega) (by omega) c412
                                  exact absurd c412 c369
                              · have hs2 := hlo2.resolve_left hs1
                                have hloN : lo = -nI nl := by rw [hlo1, hs2.1]; exact lxV_2 nl
                                refine lv_iload hx hb dL_isTold_404 (lv_at hl 12 rfl) ?_
                                refine ft_top (y := -nI nl) hloN ?_
                                refine ft_callBv (X := (ftCB9 cI cS o0 Ao ((lxTxt u349 t400 (no9 + 6 + 1 + d400)).1.2.1 0) (lxTxt u349 t400 (no9 + 6 + 1 + d400)))) (Y := ([(t0, .inl (cI, 12, .inl tf2))] ++ ftCB9 cI cS p0 Ap ((lxTxt cp9 tp1 np1).1.2.1 0) (lxTxt cp9 tp1 np1))) (X1 := fun (u406 : ftCdT) => (ftCB9 cI cS o0 Ao (u406.1.2.1 0) u406)) (ws1 := fun (u406 : ftCdT) => ([(t0, .inl (cI, 12, .inl tf2))] ++ (ftCB9 cI cS o0 Ao (u406.1.2.1 0) u406 ++ ftCB9 cI cS p0 Ap ((lxTxt cp9 tp1 np1).1.2.1 0) (lxTxt cp9 tp1 np1)))) (va_runS (As := [.ref o0, .int (-nI nl)]) (rest := []) ⟨hx, hb, hml, hown, hts⟩ (c_L_numberN l D cI cS H.size sK sV o0 Ao (lxTxt u349 t400 (no9 + 6 + 1 + d400)) nl (by omega) (by omega) (show no9 + 6 + 1 + d400 + 7 ≤ 120 by omega)) (va_cwS 2 hts gL_isTold_L_number rfl rfl rfl (by decide +kernel) ⟨Nat.le_of_ble_eq_true rfl, Nat.le_of_ble_eq_true rfl⟩) (ft_preBS (List.perm_append_comm_assoc _ _ _) hP hD hKK hSt hS hA) rfl rfl hl.1 rfl (lv_room (Nat.le_of_ble_eq_true rfl)) dL_isTold_406 ⟨Nat.le_of_ble_eq_true rfl, Nat.le_of_ble_eq_true rfl⟩) hP hD hS hA (List.perm_append_comm_assoc _ _ _) (fun _ => (List.Perm.symm (List.perm_append_comm_assoc _ _ _))) (fun u406 h406 H locs hP hD hS => ?_)
                                have hP : va_P D vwCl ([(t0, .inl (cI, 12, .inl tf2))] ++ (ftCB9 cI cS o0 Ao (u406.1.2.1 0) u406 ++ ftCB9 cI cS p0 Ap ((lxTxt cp9 tp1 np1).1.2.1 0) (lxTxt cp9 tp1 np1))) H := hP
                                have hD : va_D A ([(t0, .inl (cI, 12, .inl tf2))] ++ (ftCB9 cI cS o0 Ao (u406.1.2.1 0) u406 ++ ftCB9 cI cS p0 Ap ((lxTxt cp9 tp1 np1).1.2.1 0) (lxTxt cp9 tp1 np1))) := hD
                                obtain ⟨d406, t406, hu406, hn406, ha406⟩ := h406
                                subst hu406
                                have hP : va_P D vwCl ([(t0, .inl (cI, 12, .inl tf2))] ++ (ftCB9 cI cS o0 Ao ((lxTxt u349 t406 (no9 + 6 + 1 + d400 + 2 + d406)).1.2.1 0) (lxTxt u349 t406 (no9 + 6 + 1 + d400 + 2 + d406)) ++ ftCB9 cI cS p0 Ap ((lxTxt cp9 tp1 np1).1.2.1 0) (lxTxt cp9 tp1 np1))) H := hP
                                have hD : va_D A ([(t0, .inl (cI, 12, .inl tf2))] ++ (ftCB9 cI cS o0 Ao ((lxTxt u349 t406 (no9 + 6 + 1 + d400 + 2 + d406)).1.2.1 0) (lxTxt u349 t406 (no9 + 6 + 1 + d400 + 2 + d406)) ++ ftCB9 cI cS p0 Ap ((lxTxt cp9 tp1 np1).1.2.1 0) (lxTxt cp9 tp1 np1))) := hD
                                have hn406 : lxN t406 (no9 + 6 + 1 + d400) 2 d406 nl := hn406
                                have ha406 : ∀ t, t < no9 + 6 + 1 + d400 → t406 t = t400 t := ha406
                                have hd406 : 1 ≤ d406 ∧ d406 ≤ 5 := ⟨hn406.2.2.1, hn406.2.2.2.1⟩
                                refine lv_iload hx hb dL_isTold_409 (lv_at hl 10 rfl) ?_
                                refine lv_iconst (v := 1) hx hb dL_isTold_411 (by decide) ?_
                                refine lv_icmp_ne (tgt := 421) hx hb dL_isTold_412 (by decide) (fun c412 => ?_) (fun c412 => ?_)
                                · have c412n : kd ≠ 1 := ft_neN (by omega) (by omega) c412
                                  refine lv_aload_n hx hb dL_isTold_421 rfl (lv_at hl 1 rfl) ?_
                                  refine lv_bipush (v := 59) hx hb dL_isTold_422 (by decide) ?_
                                  refine ft_callB (X := (ftCB9 cI cS o0 Ao ((lxTxt u349 t406 (no9 + 6 + 1 + d400 + 2 + d406)).1.2.1 0) (lxTxt u349 t406 (no9 + 6 + 1 + d400 + 2 + d406)))) (Y := ([(t0, .inl (cI, 12, .inl tf2))] ++ ftCB9 cI cS p0 Ap ((lxTxt cp9 tp1 np1).1.2.1 0) (lxTxt cp9 tp1 np1))) (X1 := fun (u424 : ftCdT) => (ftCB9 cI cS o0 Ao (u424.1.2.1 0) u424)) (ws1 := fun (u424 : ftCdT) => ([(t0, .inl (cI, 12, .inl tf2))] ++ (ftCB9 cI cS o0 Ao (u424.1.2.1 0) u424 ++ ftCB9 cI cS p0 Ap ((lxTxt cp9 tp1 np1).1.2.1 0) (lxTxt cp9 tp1 np1)))) (va_runV (C := RX10) (As := [.int 59]) (rest := []) ⟨hx, hb, hml, hown, hts⟩ (et_type l D cI cS H.size sK sV o0 Ao (lxTxt u349 t406 (no9 + 6 + 1 + d400 + 2 + d406)) 59 (by decide) (show no9 + 6 + 1 + d400 + 2 + d406 < 120 by omega)) (cwV 1 hts gL_isTold_X10_type rfl rfl rfl (by decide +kernel) ⟨Nat.le_of_ble_eq_true rfl, Nat.le_of_ble_eq_true rfl⟩) (ft_preB (ci := 10) (List.perm_append_comm_assoc _ _ _) hP hD hKK hSt hS hA rfl rfl) rfl rfl hl.1 rfl (lv_room (Nat.le_of_ble_eq_true rfl)) dL_isTold_424 ⟨Nat.le_of_ble_eq_true rfl, Nat.le_of_ble_eq_true rfl⟩) hP hD hS hA (List.perm_append_comm_assoc _ _ _) (fun _ => (List.Perm.symm (List.perm_append_comm_assoc _ _ _))) (fun r424 u424 h424 H locs hP hD hS => ?_)
                                  have hP : va_P D vwCl ([(t0, .inl (cI, 12, .inl tf2))] ++ (ftCB9 cI cS o0 Ao (u424.1.2.1 0) u424 ++ ftCB9 cI cS p0 Ap ((lxTxt cp9 tp1 np1).1.2.1 0) (lxTxt cp9 tp1 np1))) H := hP
                                  have hD : va_D A ([(t0, .inl (cI, 12, .inl tf2))] ++ (ftCB9 cI cS o0 Ao (u424.1.2.1 0) u424 ++ ftCB9 cI cS p0 Ap ((lxTxt cp9 tp1 np1).1.2.1 0) (lxTxt cp9 tp1 np1))) := hD
                                  obtain ⟨hr424, hu424⟩ := h424
                                  subst hu424
                                  have hP : va_P D vwCl ([(t0, .inl (cI, 12, .inl tf2))] ++ (ftCB9 cI cS o0 Ao ((lxTxt u349 (upd t406 (no9 + 6 + 1 + d400 + 2 + d406) 59) (no9 + 6 + 1 + d400 + 2 + d406 + 1)).1.2.1 0) (lxTxt u349 (upd t406 (no9 + 6 + 1 + d400 + 2 + d406) 59) (no9 + 6 + 1 + d400 + 2 + d406 + 1)) ++ ftCB9 cI cS p0 Ap ((lxTxt cp9 tp1 np1).1.2.1 0) (lxTxt cp9 tp1 np1))) H := hP
                                  have hD : va_D A ([(t0, .inl (cI, 12, .inl tf2))] ++ (ftCB9 cI cS o0 Ao ((lxTxt u349 (upd t406 (no9 + 6 + 1 + d400 + 2 + d406) 59) (no9 + 6 + 1 + d400 + 2 + d406 + 1)).1.2.1 0) (lxTxt u349 (upd t406 (no9 + 6 + 1 + d400 + 2 + d406) 59) (no9 + 6 + 1 + d400 + 2 + d406 + 1)) ++ ftCB9 cI cS p0 Ap ((lxTxt cp9 tp1 np1).1.2.1 0) (lxTxt cp9 tp1 np1))) := hD
                                  refine lv_pop hx hb dL_isTold_427 rfl ?_
                                  have hk9 : kd = 2 := by omega
                                  obtain ⟨S9, D9, N8, hi1, he1, hv1, hv2⟩ := lx_it2 (j := 5) (p := no9) hn400 ha400 hn406 ha406
                                  obtain ⟨hi2, hc9⟩ := lx_end hi1 he1
                                  exact jn428 (upd t406 (no9 + 6 + 1 + d400 + 2 + d406) 59) (no9 + 6 + 1 + d400 + 2 + d406 + 1) S9 D9 N8 (by omega) (by intro t ht; rw [ftUpd_ne (by omega), ha406 t (by omega), ha400 t (by omega)]; exact lxTy_lo ht) (by rw [hk9]; exact hi2) (by rw [hk9]; exact congrArg Nat.succ he1) (by rw [hk9]; exact hc9) (by exact hv1.trans (lxV_1 _)) (by exact hv2.trans ((lxV_2 nl).trans hloN.symm)) (by intro q; exact absurd q (by omega)) _ _ hP hD hS ls (lv_sub hl [0, 1, 2, 3, 4, 5, 6, 7, 8, 9, 10, 11, 12, 13, 14] rfl)
                                · have c412n : kd = 1 := ft_eqN (by omega) (by omega) c412
                                  exact absurd c412 c369
                            · have c387n : kd = 1 := ft_eqN (by omega) (by omega) c387
                              exact absurd c387 c369
                          · have c369n : kd = 1 := ft_eqN (by omega) (by omega) c369
                            refine lv_ldc2 (v := 7165066952596223087) hx hb hown (hts (.constantLong RL 62 7165066952596223087) (by decide +kernel)) dL_isTold_372 ?_
                            refine lv_goto (tgt := 381) hx hb dL_isTold_375 (by decide) ?_
                            refine ft_callBv (X := (ftCB9 cI cS o0 Ao ((lxTxt u349 to9 no9).1.2.1 0) (lxTxt u349 to9 no9))) (Y := ([(t0, .inl (cI, 12, .inl tf2))] ++ ftCB9 cI cS p0 Ap ((lxTxt cp9 tp1 np1).1.2.1 0) (lxTxt cp9 tp1 np1))) (X1 := fun (u381 : ftCdT) => (ftCB9 cI cS o0 Ao (u381.1.2.1 0) u381)) (ws1 := fun (u381 : ftCdT) => ([(t0, .inl (cI, 12, .inl tf2))] ++ (ftCB9 cI cS o0 Ao (u381.1.2.1 0) u381 ++ ftCB9 cI cS p0 Ap ((lxTxt cp9 tp1 np1).1.2.1 0) (lxTxt cp9 tp1 np1)))) (va_runS (As := [.ref o0, .long 7165066952596223087]) (rest := []) ⟨hx, hb, hml, hown, hts⟩ (c_L_word l D cI cS H.size sK sV o0 Ao (lxTxt u349 to9 no9) 7165066952596223087 8 (lxWf 4) lxWd_4 (show no9 + 8 ≤ 120 by omega)) (va_cwS 2 hts gL_isTold_L_word rfl rfl rfl (by decide +kernel) ⟨Nat.le_of_ble_eq_true rfl, Nat.le_of_ble_eq_true rfl⟩) (ft_preBS (List.perm_append_comm_assoc _ _ _) hP hD hKK hSt hS hA) rfl rfl hl.1 rfl (lv_room (Nat.le_of_ble_eq_true rfl)) dL_isTold_381 ⟨Nat.le_of_ble_eq_true rfl, Nat.le_of_ble_eq_true rfl⟩) hP hD hS hA (List.perm_append_comm_assoc _ _ _) (fun _ => (List.Perm.symm (List.perm_append_comm_assoc _ _ _))) (fun u381 h381 H locs hP hD hS => ?_)
                            have hP : va_P D vwCl ([(t0, .inl (cI, 12, .inl tf2))] ++ (ftCB9 cI cS o0 Ao (u381.1.2.1 0) u381 ++ ftCB9 cI cS p0 Ap ((lxTxt cp9 tp1 np1).1.2.1 0) (lxTxt cp9 tp1 np1))) H := hP
                            have hD : va_D A ([(t0, .inl (cI, 12, .inl tf2))] ++ (ftCB9 cI cS o0 Ao (u381.1.2.1 0) u381 ++ ftCB9 cI cS p0 Ap ((lxTxt cp9 tp1 np1).1.2.1 0) (lxTxt cp9 tp1 np1))) := hD
                            have hu381 := h381
                            subst hu381
                            have hP : va_P D vwCl ([(t0, .inl (cI, 12, .inl tf2))] ++ (ftCB9 cI cS o0 Ao ((lxTxt u349 (lxTy (lxWf 4) to9 no9 8) (no9 + 8)).1.2.1 0) (lxTxt u349 (lxTy (lxWf 4) to9 no9 8) (no9 + 8)) ++ ftCB9 cI cS p0 Ap ((lxTxt cp9 tp1 np1).1.2.1 0) (lxTxt cp9 tp1 np1))) H := hP
                            have hD : va_D A ([(t0, .inl (cI, 12, .inl tf2))] ++ (ftCB9 cI cS o0 Ao ((lxTxt u349 (lxTy (lxWf 4) to9 no9 8) (no9 + 8)).1.2.1 0) (lxTxt u349 (lxTy (lxWf 4) to9 no9 8) (no9 + 8)) ++ ftCB9 cI cS p0 Ap ((lxTxt cp9 tp1 np1).1.2.1 0) (lxTxt cp9 tp1 np1))) := hD
                            refine lv_iload hx hb dL_isTold_384 (lv_at hl 10 rfl) ?_
                            refine lv_iconst (v := 1) hx hb dL_isTold_386 (by decide) ?_
                            refine lv_icmp_ne (tgt := 397) hx hb dL_isTold_387 (by decide) (fun c387 => ?_) (fun c387 => ?_)
                            · have c387n : kd ≠ 1 := ft_neN (by omega) (by omega) c387
                              exact absurd c369 c387
                            · have c387n : kd = 1 := ft_eqN (by omega) (by omega) c387
                              refine lv_aload_n hx hb dL_isTold_390 rfl (lv_at hl 1 rfl) ?_
                              refine lv_bipush (v := 114) hx hb dL_isTold_391 (by decide) ?_
                              refine ft_callB (X := (ftCB9 cI cS o0 Ao ((lxTxt u349 (lxTy (lxWf 4) to9 no9 8) (no9 + 8)).1.2.1 0) (lxTxt u349 (lxTy (lxWf 4) to9 no9 8) (no9 + 8)))) (Y := ([(t0, .inl (cI, 12, .inl tf2))] ++ ftCB9 cI cS p0 Ap ((lxTxt cp9 tp1 np1).1.2.1 0) (lxTxt cp9 tp1 np1))) (X1 := fun (u393 : ftCdT) => (ftCB9 cI cS o0 Ao (u393.1.2.1 0) u393)) (ws1 := fun (u393 : ftCdT) => ([(t0, .inl (cI, 12, .inl tf2))] ++ (ftCB9 cI cS o0 Ao (u393.1.2.1 0) u393 ++ ftCB9 cI cS p0 Ap ((lxTxt cp9 tp1 np1).1.2.1 0) (lxTxt cp9 tp1 np1)))) (va_runV (C := RX10) (As := [.int 114]) (rest := []) ⟨hx, hb, hml, hown, hts⟩ (et_type l D cI cS H.size sK sV o0 Ao (lxTxt u349 (lxTy (lxWf 4) to9 no9 8) (no9 + 8)) 114 (by decide) (show no9 + 8 < 120 by omega)) (cwV 1 hts gL_isTold_X10_type rfl rfl rfl (by decide +kernel) ⟨Nat.le_of_ble_eq_true rfl, Nat.le_of_ble_eq_true rfl⟩) (ft_preB (ci := 10) (List.perm_append_comm_assoc _ _ _) hP hD hKK hSt hS hA rfl rfl) rfl rfl hl.1 rfl (lv_room (Nat.le_of_ble_eq_true rfl)) dL_isTold_393 ⟨Nat.le_of_ble_eq_true rfl, Nat.le_of_ble_eq_true rfl⟩) hP hD hS hA (List.perm_append_comm_assoc _ _ _) (fun _ => (List.Perm.symm (List.perm_append_comm_assoc _ _ _))) (fun r393 u393 h393 H locs hP hD hS => ?_)
                              have hP : va_P D vwCl ([(t0, .inl (cI, 12, .inl tf2))] ++ (ftCB9 cI cS o0 Ao (u393.1.2.1 0) u393 ++ ftCB9 cI cS p0 Ap ((lxTxt cp9 tp1 np1).1.2.1 0) (lxTxt cp9 tp1 np1))) H := hP
                              have hD : va_D A ([(t0, .inl (cI, 12, .inl tf2))] ++ (ftCB9 cI cS o0 Ao (u393.1.2.1 0) u393 ++ ftCB9 cI cS p0 Ap ((lxTxt cp9 tp1 np1).1.2.1 0) (lxTxt cp9 tp1 np1))) := hD
                              obtain ⟨hr393, hu393⟩ := h393
                              subst hu393
                              have hP : va_P D vwCl ([(t0, .inl (cI, 12, .inl tf2))] ++ (ftCB9 cI cS o0 Ao ((lxTxt u349 (upd (lxTy (lxWf 4) to9 no9 8) (no9 + 8) 114) (no9 + 8 + 1)).1.2.1 0) (lxTxt u349 (upd (lxTy (lxWf 4) to9 no9 8) (no9 + 8) 114) (no9 + 8 + 1)) ++ ftCB9 cI cS p0 Ap ((lxTxt cp9 tp1 np1).1.2.1 0) (lxTxt cp9 tp1 np1))) H := hP
                              have hD : va_D A ([(t0, .inl (cI, 12, .inl tf2))] ++ (ftCB9 cI cS o0 Ao ((lxTxt u349 (upd (lxTy (lxWf 4) to9 no9 8) (no9 + 8) 114) (no9 + 8 + 1)).1.2.1 0) (lxTxt u349 (upd (lxTy (lxWf 4) to9 no9 8) (no9 + 8) 114) (no9 + 8 + 1)) ++ ftCB9 cI cS p0 Ap ((lxTxt cp9 tp1 np1).1.2.1 0) (lxTxt cp9 tp1 np1))) := hD
                              have hP : va_P D vwCl ([(t0, .inl (cI, 12, .inl tf2))] ++ (ftCB9 cI cS o0 Ao ((lxTxt u349 (lxTy (lxWf 4) to9 no9 9) (no9 + 9)).1.2.1 0) (lxTxt u349 (lxTy (lxWf 4) to9 no9 9) (no9 + 9)) ++ ftCB9 cI cS p0 Ap ((lxTxt cp9 tp1 np1).1.2.1 0) (lxTxt cp9 tp1 np1))) H := (by rw [show lxTy (lxWf 4) to9 no9 9 = upd (lxTy (lxWf 4) to9 no9 8) (no9 + 8) 114 from (lxTy_s (f := lxWf 4) (m := 8)).symm]; exact hP)
                              have hD : va_D A ([(t0, .inl (cI, 12, .inl tf2))] ++ (ftCB9 cI cS o0 Ao ((lxTxt u349 (lxTy (lxWf 4) to9 no9 9) (no9 + 9)).1.2.1 0) (lxTxt u349 (lxTy (lxWf 4) to9 no9 9) (no9 + 9)) ++ ftCB9 cI cS p0 Ap ((lxTxt cp9 tp1 np1).1.2.1 0) (lxTxt cp9 tp1 np1))) := (by rw [show lxTy (lxWf 4) to9 no9 9 = upd (lxTy (lxWf 4) to9 no9 8) (no9 + 8) 114 from (lxTy_s (f := lxWf 4) (m := 8)).symm]; exact hD)
                              refine lv_pop hx hb dL_isTold_396 rfl ?_
                              refine lv_aload_n hx hb dL_isTold_397 rfl (lv_at hl 1 rfl) ?_
                              refine lv_iload hx hb dL_isTold_398 (lv_at hl 11 rfl) ?_
                              refine ft_callBv (X := (ftCB9 cI cS o0 Ao ((lxTxt u349 (lxTy (lxWf 4) to9 no9 9) (no9 + 9)).1.2.1 0) (lxTxt u349 (lxTy (lxWf 4) to9 no9 9) (no9 + 9)))) (Y := ([(t0, .inl (cI, 12, .inl tf2))] ++ ftCB9 cI cS p0 Ap ((lxTxt cp9 tp1 np1).1.2.1 0) (lxTxt cp9 tp1 np1))) (X1 := fun (u400 : ftCdT) => (ftCB9 cI cS o0 Ao (u400.1.2.1 0) u400)) (ws1 := fun (u400 : ftCdT) => ([(t0, .inl (cI, 12, .inl tf2))] ++ (ftCB9 cI cS o0 Ao (u400.1.2.1 0) u400 ++ ftCB9 cI cS p0 Ap ((lxTxt cp9 tp1 np1).1.2.1 0) (lxTxt cp9 tp1 np1)))) (va_runS (As := [.ref o0, .int (nI pl)]) (rest := []) ⟨hx, hb, hml, hown, hts⟩ (c_L_numberP l D cI cS H.size sK sV o0 Ao (lxTxt u349 (lxTy (lxWf 4) to9 no9 9) (no9 + 9)) pl (by omega) (show no9 + 9 + 7 ≤ 120 by omega)) (va_cwS 2 hts gL_isTold_L_number rfl rfl rfl (by decide +kernel) ⟨Nat.le_of_ble_eq_true rfl, Nat.le_of_ble_eq_true rfl⟩) (ft_preBS (List.perm_append_comm_assoc _ _ _) hP hD hKK hSt hS hA) rfl rfl hl.1 rfl (lv_room (Nat.le_of_ble_eq_true rfl)) dL_isTold_400 ⟨Nat.le_of_ble_eq_true rfl, Nat.le_of_ble_eq_true rfl⟩) hP hD hS hA (List.perm_append_comm_assoc _ _ _) (fun _ => (List.Perm.symm (List.perm_append_comm_assoc _ _ _))) (fun u400 h400 H locs hP hD hS => ?_)
                              have hP : va_P D vwCl ([(t0, .inl (cI, 12, .inl tf2))] ++ (ftCB9 cI cS o0 Ao (u400.1.2.1 0) u400 ++ ftCB9 cI cS p0 Ap ((lxTxt cp9 tp1 np1).1.2.1 0) (lxTxt cp9 tp1 np1))) H := hP
                              have hD : va_D A ([(t0, .inl (cI, 12, .inl tf2))] ++ (ftCB9 cI cS o0 Ao (u400.1.2.1 0) u400 ++ ftCB9 cI cS p0 Ap ((lxTxt cp9 tp1 np1).1.2.1 0) (lxTxt cp9 tp1 np1))) := hD
                              obtain ⟨d400, t400, hu400, hn400, ha400⟩ := h400
                              subst hu400
                              have hP : va_P D vwCl ([(t0, .inl (cI, 12, .inl tf2))] ++ (ftCB9 cI cS o0 Ao ((lxTxt u349 t400 (no9 + 9 + 1 + d400)).1.2.1 0) (lxTxt u349 t400 (no9 + 9 + 1 + d400)) ++ ftCB9 cI cS p0 Ap ((lxTxt cp9 tp1 np1).1.2.1 0) (lxTxt cp9 tp1 np1))) H := hP
                              have hD : va_D A ([(t0, .inl (cI, 12, .inl tf2))] ++ (ftCB9 cI cS o0 Ao ((lxTxt u349 t400 (no9 + 9 + 1 + d400)).1.2.1 0) (lxTxt u349 t400 (no9 + 9 + 1 + d400)) ++ ftCB9 cI cS p0 Ap ((lxTxt cp9 tp1 np1).1.2.1 0) (lxTxt cp9 tp1 np1))) := hD
                              have hn400 : lxN t400 (no9 + 9) 1 d400 pl := hn400
                              have ha400 : ∀ t, t < no9 + 9 → t400 t = (lxTy (lxWf 4) to9 no9 9) t := ha400
                              have hd400 : 1 ≤ d400 ∧ d400 ≤ 5 := ⟨hn400.2.2.1, hn400.2.2.2.1⟩
                              refine lv_aload_n hx hb dL_isTold_403 rfl (lv_at hl 1 rfl) ?_
                              rcases Classical.em (sl = 1) with hs1 | hs1
                              · have hloP : lo = nI nl := by rw [hlo1, hs1]; exact lxV_1 nl
                                refine lv_iload hx hb dL_isTold_404 (lv_at hl 12 rfl) ?_
                                refine ft_top (y := nI nl) hloP ?_
                                refine ft_callBv (X := (ftCB9 cI cS o0 Ao ((lxTxt u349 t400 (no9 + 9 + 1 + d400)).1.2.1 0) (lxTxt u349 t400 (no9 + 9 + 1 + d400)))) (Y := ([(t0, .inl (cI, 12, .inl tf2))] ++ ftCB9 cI cS p0 Ap ((lxTxt cp9 tp1 np1).1.2.1 0) (lxTxt cp9 tp1 np1))) (X1 := fun (u406 : ftCdT) => (ftCB9 cI cS o0 Ao (u406.1.2.1 0) u406)) (ws1 := fun (u406 : ftCdT) => ([(t0, .inl (cI, 12, .inl tf2))] ++ (ftCB9 cI cS o0 Ao (u406.1.2.1 0) u406 ++ ftCB9 cI cS p0 Ap ((lxTxt cp9 tp1 np1).1.2.1 0) (lxTxt cp9 tp1 np1)))) (va_runS (As := [.ref o0, .int (nI nl)]) (rest := []) ⟨hx, hb, hml, hown, hts⟩ (c_L_numberP l D cI cS H.size sK sV o0 Ao (lxTxt u349 t400 (no9 + 9 + 1 + d400)) nl (by omega) (show no9 + 9 + 1 + d400 + 7 ≤ 120 by omega)) (va_cwS 2 hts gL_isTold_L_number rfl rfl rfl (by decide +kernel) ⟨Nat.le_of_ble_eq_true rfl, Nat.le_of_ble_eq_true rfl⟩) (ft_preBS (List.perm_append_comm_assoc _ _ _) hP hD hKK hSt hS hA) rfl rfl hl.1 rfl (lv_room (Nat.le_of_ble_eq_true rfl)) dL_isTold_406 ⟨Nat.le_of_ble_eq_true rfl, Nat.le_of_ble_eq_true rfl⟩) hP hD hS hA (List.perm_append_comm_assoc _ _ _) (fun _ => (List.Perm.symm (List.perm_append_comm_assoc _ _ _))) (fun u406 h406 H locs hP hD hS => ?_)
                                have hP : va_P D vwCl ([(t0, .inl (cI, 12, .inl tf2))] ++ (ftCB9 cI cS o0 Ao (u406.1.2.1 0) u406 ++ ftCB9 cI cS p0 Ap ((lxTxt cp9 tp1 np1).1.2.1 0) (lxTxt cp9 tp1 np1))) H := hP
                                have hD : va_D A ([(t0, .inl (cI, 12, .inl tf2))] ++ (ftCB9 cI cS o0 Ao (u406.1.2.1 0) u406 ++ ftCB9 cI cS p0 Ap ((lxTxt cp9 tp1 np1).1.2.1 0) (lxTxt cp9 tp1 np1))) := hD
                                obtain ⟨d406, t406, hu406, hn406, ha406⟩ := h406
                                subst hu406
                                have hP : va_P D vwCl ([(t0, .inl (cI, 12, .inl tf2))] ++ (ftCB9 cI cS o0 Ao ((lxTxt u349 t406 (no9 + 9 + 1 + d400 + 1 + d406)).1.2.1 0) (lxTxt u349 t406 (no9 + 9 + 1 + d400 + 1 + d406)) ++ ftCB9 cI cS p0 Ap ((lxTxt cp9 tp1 np1).1.2.1 0) (lxTxt cp9 tp1 np1))) H := hP
                                have hD : va_D A ([(t0, .inl (cI, 12, .inl tf2))] ++ (ftCB9 cI cS o0 Ao ((lxTxt u349 t406 (no9 + 9 + 1 + d400 + 1 + d406)).1.2.1 0) (lxTxt u349 t406 (no9 + 9 + 1 + d400 + 1 + d406)) ++ ftCB9 cI cS p0 Ap ((lxTxt cp9 tp1 np1).1.2.1 0) (lxTxt cp9 tp1 np1))) := hD
                                have hn406 : lxN t406 (no9 + 9 + 1 + d400) 1 d406 nl := hn406
                                have ha406 : ∀ t, t < no9 + 9 + 1 + d400 → t406 t = t400 t := ha406
                                have hd406 : 1 ≤ d406 ∧ d406 ≤ 5 := ⟨hn406.2.2.1, hn406.2.2.2.1⟩
                                refine lv_iload hx hb dL_isTold_409 (lv_at hl 10 rfl) ?_
                                refine lv_iconst (v := 1) hx hb dL_isTold_411 (by decide) ?_
                                refine lv_icmp_ne (tgt := 421) hx hb dL_isTold_412 (by decide) (fun c412 => ?_) (fun c412 => ?_)
                                · have c412n : kd ≠ 1 := ft_neN (by omega) (by omega) c412
                                  exact absurd c369 c412
                                · have c412n : kd = 1 := ft_eqN (by omega) (by omega) c412
                                  refine lv_aload_n hx hb dL_isTold_415 rfl (lv_at hl 1 rfl) ?_
                                  refine lv_iload hx hb dL_isTold_416 (lv_at hl 13 rfl) ?_
                                  refine ft_top (y := nI nf) hfl1.1 ?_
                                  refine ft_callBv (X := (ftCB9 cI cS o0 Ao ((lxTxt u349 t406 (no9 + 9 + 1 + d400 + 1 + d406)).1.2.1 0) (lxTxt u349 t406 (no9 + 9 + 1 + d400 + 1 + d406)))) (Y := ([(t0, .inl (cI, 12, .inl tf2))] ++ ftCB9 cI cS p0 Ap ((lxTxt cp9 tp1 np1).1.2.1 0) (lxTxt cp9 tp1 np1))) (X1 := fun (u418 : ftCdT) => (ftCB9 cI cS o0 Ao (u418.1.2.1 0) u418)) (ws1 := fun (u418 : ftCdT) => ([(t0, .inl (cI, 12, .inl tf2))] ++ (ftCB9 cI cS o0 Ao (u418.1.2.1 0) u418 ++ ftCB9 cI cS p0 Ap ((lxTxt cp9 tp1 np1).1.2.1 0) (lxTxt cp9 tp1 np1)))) (va_runS (As := [.ref o0, .int (nI nf)]) (rest := []) ⟨hx, hb, hml, hown, hts⟩ (c_L_numberP l D cI cS H.size sK sV o0 Ao (lxTxt u349 t406 (no9 + 9 + 1 + d400 + 1 + d406)) nf (by omega) (show no9 + 9 + 1 + d400 + 1 + d406 + 7 ≤ 120 by omega)) (va_cwS 2 hts gL_isTold_L_number rfl rfl rfl (by decide +kernel) ⟨Nat.le_of_ble_eq_true rfl, Nat.le_of_ble_eq_true rfl⟩) (ft_preBS (List.perm_append_comm_assoc _ _ _) hP hD hKK hSt hS hA) rfl rfl hl.1 rfl (lv_room (Nat.le_of_ble_eq_true rfl)) dL_isTold_418 ⟨Nat.le_of_ble_eq_true rfl, Nat.le_of_ble_eq_true rfl⟩) hP hD hS hA (List.perm_append_comm_assoc _ _ _) (fun _ => (List.Perm.symm (List.perm_append_comm_assoc _ _ _))) (fun u418 h418 H locs hP hD hS => ?_)
                                  have hP : va_P D vwCl ([(t0, .inl (cI, 12, .inl tf2))] ++ (ftCB9 cI cS o0 Ao (u418.1.2.1 0) u418 ++ ftCB9 cI cS p0 Ap ((lxTxt cp9 tp1 np1).1.2.1 0) (lxTxt cp9 tp1 np1))) H := hP
                                  have hD : va_D A ([(t0, .inl (cI, 12, .inl tf2))] ++ (ftCB9 cI cS o0 Ao (u418.1.2.1 0) u418 ++ ftCB9 cI cS p0 Ap ((lxTxt cp9 tp1 np1).1.2.1 0) (lxTxt cp9 tp1 np1))) := hD
                                  obtain ⟨d418, t418, hu418, hn418, ha418⟩ := h418
                                  subst hu418
                                  have hP : va_P D vwCl ([(t0, .inl (cI, 12, .inl tf2))] ++ (ftCB9 cI cS o0 Ao ((lxTxt u349 t418 (no9 + 9 + 1 + d400 + 1 + d406 + 1 + d418)).1.2.1 0) (lxTxt u349 t418 (no9 + 9 + 1 + d400 + 1 + d406 + 1 + d418)) ++ ftCB9 cI cS p0 Ap ((lxTxt cp9 tp1 np1).1.2.1 0) (lxTxt cp9 tp1 np1))) H := hP
                                  have hD : va_D A ([(t0, .inl (cI, 12, .inl tf2))] ++ (ftCB9 cI cS o0 Ao ((lxTxt u349 t418 (no9 + 9 + 1 + d400 + 1 + d406 + 1 + d418)).1.2.1 0) (lxTxt u349 t418 (no9 + 9 + 1 + d400 + 1 + d406 + 1 + d418)) ++ ftCB9 cI cS p0 Ap ((lxTxt cp9 tp1 np1).1.2.1 0) (lxTxt cp9 tp1 np1))) := hD
                                  have hn418 : lxN t418 (no9 + 9 + 1 + d400 + 1 + d406) 1 d418 nf := hn418
                                  have ha418 : ∀ t, t < no9 + 9 + 1 + d400 + 1 + d406 → t418 t = t406 t := ha418
                                  have hd418 : 1 ≤ d418 ∧ d418 ≤ 5 := ⟨hn418.2.2.1, hn418.2.2.2.1⟩
                                  refine lv_aload_n hx hb dL_isTold_421 rfl (lv_at hl 1 rfl) ?_
                                  refine lv_bipush (v := 59) hx hb dL_isTold_422 (by decide) ?_
                                  refine ft_callB (X := (ftCB9 cI cS o0 Ao ((lxTxt u349 t418 (no9 + 9 + 1 + d400 + 1 + d406 + 1 + d418)).1.2.1 0) (lxTxt u349 t418 (no9 + 9 + 1 + d400 + 1 + d406 + 1 + d418)))) (Y := ([(t0, .inl (cI, 12, .inl tf2))] ++ ftCB9 cI cS p0 Ap ((lxTxt cp9 tp1 np1).1.2.1 0) (lxTxt cp9 tp1 np1))) (X1 := fun (u424 : ftCdT) => (ftCB9 cI cS o0 Ao (u424.1.2.1 0) u424)) (ws1 := fun (u424 : ftCdT) => ([(t0, .inl (cI, 12, .inl tf2))] ++ (ftCB9 cI cS o0 Ao (u424.1.2.1 0) u424 ++ ftCB9 cI cS p0 Ap ((lxTxt cp9 tp1 np1).1.2.1 0) (lxTxt cp9 tp1 np1)))) (va_runV (C := RX10) (As := [.int 59]) (rest := []) ⟨hx, hb, hml, hown, hts⟩ (et_type l D cI cS H.size sK sV o0 Ao (lxTxt u349 t418 (no9 + 9 + 1 + d400 + 1 + d406 + 1 + d418)) 59 (by decide) (show no9 + 9 + 1 + d400 + 1 + d406 + 1 + d418 < 120 by omega)) (cwV 1 hts gL_isTold_X10_type rfl rfl rfl (by decide +kernel) ⟨Nat.le_of_ble_eq_true rfl, Nat.le_of_ble_eq_true rfl⟩) (ft_preB (ci := 10) (List.perm_append_comm_assoc _ _ _) hP hD hKK hSt hS hA rfl rfl) rfl rfl hl.1 rfl (lv_room (Nat.le_of_ble_eq_true rfl)) dL_isTold_424 ⟨Nat.le_of_ble_eq_true rfl, Nat.le_of_ble_eq_true rfl⟩) hP hD hS hA (List.perm_append_comm_assoc _ _ _) (fun _ => (List.Perm.symm (List.perm_append_comm_assoc _ _ _))) (fun r424 u424 h424 H locs hP hD hS => ?_)
                                  have hP : va_P D vwCl ([(t0, .inl (cI, 12, .inl tf2))] ++ (ftCB9 cI cS o0 Ao (u424.1.2.1 0) u424 ++ ftCB9 cI cS p0 Ap ((lxTxt cp9 tp1 np1).1.2.1 0) (lxTxt cp9 tp1 np1))) H := hP
                                  have hD : va_D A ([(t0, .inl (cI, 12, .inl tf2))] ++ (ftCB9 cI cS o0 Ao (u424.1.2.1 0) u424 ++ ftCB9 cI cS p0 Ap ((lxTxt cp9 tp1 np1).1.2.1 0) (lxTxt cp9 tp1 np1))) := hD
                                  obtain ⟨hr424, hu424⟩ := h424
                                  subst hu424
                                  have hP : va_P D vwCl ([(t0, .inl (cI, 12, .inl tf2))] ++ (ftCB9 cI cS o0 Ao ((lxTxt u349 (upd t418 (no9 + 9 + 1 + d400 + 1 + d406 + 1 + d418) 59) (no9 + 9 + 1 + d400 + 1 + d406 + 1 + d418 + 1)).1.2.1 0) (lxTxt u349 (upd t418 (no9 + 9 + 1 + d400 + 1 + d406 + 1 + d418) 59) (no9 + 9 + 1 + d400 + 1 + d406 + 1 + d418 + 1)) ++ ftCB9 cI cS p0 Ap ((lxTxt cp9 tp1 np1).1.2.1 0) (lxTxt cp9 tp1 np1))) H := hP
                                  have hD : va_D A ([(t0, .inl (cI, 12, .inl tf2))] ++ (ftCB9 cI cS o0 Ao ((lxTxt u349 (upd t418 (no9 + 9 + 1 + d400 + 1 + d406 + 1 + d418) 59) (no9 + 9 + 1 + d400 + 1 + d406 + 1 + d418 + 1)).1.2.1 0) (lxTxt u349 (upd t418 (no9 + 9 + 1 + d400 + 1 + d406 + 1 + d418) 59) (no9 + 9 + 1 + d400 + 1 + d406 + 1 + d418 + 1)) ++ ftCB9 cI cS p0 Ap ((lxTxt cp9 tp1 np1).1.2.1 0) (lxTxt cp9 tp1 np1))) := hD
                                  refine lv_pop hx hb dL_isTold_427 rfl ?_
                                  have hk9 : kd = 1 := by omega
                                  obtain ⟨S9, D9, N8, hi1, he1, hv1, hv2, hv3⟩ := lx_it3 (j := 4) (p := no9) hn400 ha400 hn406 ha406 hn418 ha418
                                  obtain ⟨hi2, hc9⟩ := lx_end hi1 he1
                                  exact jn428 (upd t418 (no9 + 9 + 1 + d400 + 1 + d406 + 1 + d418) 59) (no9 + 9 + 1 + d400 + 1 + d406 + 1 + d418 + 1) S9 D9 N8 (by omega) (by intro t ht; rw [ftUpd_ne (by omega), ha418 t (by omega), ha406 t (by omega), ha400 t (by omega)]; exact lxTy_lo ht) (by rw [hk9]; exact hi2) (by rw [hk9]; exact congrArg Nat.succ he1) (by rw [hk9]; exact hc9) (by exact hv1.trans (lxV_1 _)) (by exact hv2.trans ((lxV_1 nl).trans hloP.symm)) (by intro _; exact hv3.trans ((lxV_1 _).trans hfl1.1.symm)) _ _ hP hD hS ls (lv_sub hl [0, 1, 2, 3, 4, 5, 6, 7, 8, 9, 10, 11, 12, 13, 14] rfl)
                              · have hs2 := hlo2.resolve_left hs1
                                have hloN : lo = -nI nl := by rw [hlo1, hs2.1]; exact lxV_2 nl
                                refine lv_iload hx hb dL_isTold_404 (lv_at hl 12 rfl) ?_
                                refine ft_top (y := -nI nl) hloN ?_
                                refine ft_callBv (X := (ftCB9 cI cS o0 Ao ((lxTxt u349 t400 (no9 + 9 + 1 + d400)).1.2.1 0) (lxTxt u349 t400 (no9 + 9 + 1 + d400)))) (Y := ([(t0, .inl (cI, 12, .inl tf2))] ++ ftCB9 cI cS p0 Ap ((lxTxt cp9 tp1 np1).1.2.1 0) (lxTxt cp9 tp1 np1))) (X1 := fun (u406 : ftCdT) => (ftCB9 cI cS o0 Ao (u406.1.2.1 0) u406)) (ws1 := fun (u406 : ftCdT) => ([(t0, .inl (cI, 12, .inl tf2))] ++ (ftCB9 cI cS o0 Ao (u406.1.2.1 0) u406 ++ ftCB9 cI cS p0 Ap ((lxTxt cp9 tp1 np1).1.2.1 0) (lxTxt cp9 tp1 np1)))) (va_runS (As := [.ref o0, .int (-nI nl)]) (rest := []) ⟨hx, hb, hml, hown, hts⟩ (c_L_numberN l D cI cS H.size sK sV o0 Ao (lxTxt u349 t400 (no9 + 9 + 1 + d400)) nl (by omega) (by omega) (show no9 + 9 + 1 + d400 + 7 ≤ 120 by omega)) (va_cwS 2 hts gL_isTold_L_number rfl rfl rfl (by decide +kernel) ⟨Nat.le_of_ble_eq_true rfl, Nat.le_of_ble_eq_true rfl⟩) (ft_preBS (List.perm_append_comm_assoc _ _ _) hP hD hKK hSt hS hA) rfl rfl hl.1 rfl (lv_room (Nat.le_of_ble_eq_true rfl)) dL_isTold_406 ⟨Nat.le_of_ble_eq_true rfl, Nat.le_of_ble_eq_true rfl⟩) hP hD hS hA (List.perm_append_comm_assoc _ _ _) (fun _ => (List.Perm.symm (List.perm_append_comm_assoc _ _ _))) (fun u406 h406 H locs hP hD hS => ?_)
                                have hP : va_P D vwCl ([(t0, .inl (cI, 12, .inl tf2))] ++ (ftCB9 cI cS o0 Ao (u406.1.2.1 0) u406 ++ ftCB9 cI cS p0 Ap ((lxTxt cp9 tp1 np1).1.2.1 0) (lxTxt cp9 tp1 np1))) H := hP
                                have hD : va_D A ([(t0, .inl (cI, 12, .inl tf2))] ++ (ftCB9 cI cS o0 Ao (u406.1.2.1 0) u406 ++ ftCB9 cI cS p0 Ap ((lxTxt cp9 tp1 np1).1.2.1 0) (lxTxt cp9 tp1 np1))) := hD
                                obtain ⟨d406, t406, hu406, hn406, ha406⟩ := h406
                                subst hu406
                                have hP : va_P D vwCl ([(t0, .inl (cI, 12, .inl tf2))] ++ (ftCB9 cI cS o0 Ao ((lxTxt u349 t406 (no9 + 9 + 1 + d400 + 2 + d406)).1.2.1 0) (lxTxt u349 t406 (no9 + 9 + 1 + d400 + 2 + d406)) ++ ftCB9 cI cS p0 Ap ((lxTxt cp9 tp1 np1).1.2.1 0) (lxTxt cp9 tp1 np1))) H := hP
                                have hD : va_D A ([(t0, .inl (cI, 12, .inl tf2))] ++ (ftCB9 cI cS o0 Ao ((lxTxt u349 t406 (no9 + 9 + 1 + d400 + 2 + d406)).1.2.1 0) (lxTxt u349 t406 (no9 + 9 + 1 + d400 + 2 + d406)) ++ ftCB9 cI cS p0 Ap ((lxTxt cp9 tp1 np1).1.2.1 0) (lxTxt cp9 tp1 np1))) := hD
                                have hn406 : lxN t406 (no9 + 9 + 1 + d400) 2 d406 nl := hn406
                                have ha406 : ∀ t, t < no9 + 9 + 1 + d400 → t406 t = t400 t := ha406
                                have hd406 : 1 ≤ d406 ∧ d406 ≤ 5 := ⟨hn406.2.2.1, hn406.2.2.2.1⟩
                                refine lv_iload hx hb dL_isTold_409 (lv_at hl 10 rfl) ?_
                                refine lv_iconst (v := 1) hx hb dL_isTold_411 (by decide) ?_
                                refine lv_icmp_ne (tgt := 421) hx hb dL_isTold_412 (by decide) (fun c412 => ?_) (fun c412 => ?_)
                                · have c412n : kd ≠ 1 := ft_neN (by omega) (by omega) c412
                                  exact absurd c369 c412
                                · have c412n : kd = 1 := ft_eqN (by omega) (by omega) c412
                                  refine lv_aload_n hx hb dL_isTold_415 rfl (lv_at hl 1 rfl) ?_
                                  refine lv_iload hx hb dL_isTold_416 (lv_at hl 13 rfl) ?_
                                  refine ft_top (y := nI nf) hfl1.1 ?_
                                  refine ft_callBv (X := (ftCB9 cI cS o0 Ao ((lxTxt u349 t406 (no9 + 9 + 1 + d400 + 2 + d406)).1.2.1 0) (lxTxt u349 t406 (no9 + 9 + 1 + d400 + 2 + d406)))) (Y := ([(t0, .inl (cI, 12, .inl tf2))] ++ ftCB9 cI cS p0 Ap ((lxTxt cp9 tp1 np1).1.2.1 0) (lxTxt cp9 tp1 np1))) (X1 := fun (u418 : ftCdT) => (ftCB9 cI cS o0 Ao (u418.1.2.1 0) u418)) (ws1 := fun (u418 : ftCdT) => ([(t0, .inl (cI, 12, .inl tf2))] ++ (ftCB9 cI cS o0 Ao (u418.1.2.1 0) u418 ++ ftCB9 cI cS p0 Ap ((lxTxt cp9 tp1 np1).1.2.1 0) (lxTxt cp9 tp1 np1)))) (va_runS (As := [.ref o0, .int (nI nf)]) (rest := []) ⟨hx, hb, hml, hown, hts⟩ (c_L_numberP l D cI cS H.size sK sV o0 Ao (lxTxt u349 t406 (no9 + 9 + 1 + d400 + 2 + d406)) nf (by omega) (show no9 + 9 + 1 + d400 + 2 + d406 + 7 ≤ 120 by omega)) (va_cwS 2 hts gL_isTold_L_number rfl rfl rfl (by decide +kernel) ⟨Nat.le_of_ble_eq_true rfl, Nat.le_of_ble_eq_true rfl⟩) (ft_preBS (List.perm_append_comm_assoc _ _ _) hP hD hKK hSt hS hA) rfl rfl hl.1 rfl (lv_room (Nat.le_of_ble_eq_true rfl)) dL_isTold_418 ⟨Nat.le_of_ble_eq_true rfl, Nat.le_of_ble_eq_true rfl⟩) hP hD hS hA (List.perm_append_comm_assoc _ _ _) (fun _ => (List.Perm.symm (List.perm_append_comm_assoc _ _ _))) (fun u418 h418 H locs hP hD hS => ?_)
                                  have hP : va_P D vwCl ([(t0, .inl (cI, 12, .inl tf2))] ++ (ftCB9 cI cS o0 Ao (u418.1.2.1 0) u418 ++ ftCB9 cI cS p0 Ap ((lxTxt cp9 tp1 np1).1.2.1 0) (lxTxt cp9 tp1 np1))) H := hP
                                  have hD : va_D A ([(t0, .inl (cI, 12, .inl tf2))] ++ (ftCB9 cI cS o0 Ao (u418.1.2.1 0) u418 ++ ftCB9 cI cS p0 Ap ((lxTxt cp9 tp1 np1).1.2.1 0) (lxTxt cp9 tp1 np1))) := hD
                                  obtain ⟨d418, t418, hu418, hn418, ha418⟩ := h418
                                  subst hu418
                                  have hP : va_P D vwCl ([(t0, .inl (cI, 12, .inl tf2))] ++ (ftCB9 cI cS o0 Ao ((lxTxt u349 t418 (no9 + 9 + 1 + d400 + 2 + d406 + 1 + d418)).1.2.1 0) (lxTxt u349 t418 (no9 + 9 + 1 + d400 + 2 + d406 + 1 + d418)) ++ ftCB9 cI cS p0 Ap ((lxTxt cp9 tp1 np1).1.2.1 0) (lxTxt cp9 tp1 np1))) H := hP
                                  have hD : va_D A ([(t0, .inl (cI, 12, .inl tf2))] ++ (ftCB9 cI cS o0 Ao ((lxTxt u349 t418 (no9 + 9 + 1 + d400 + 2 + d406 + 1 + d418)).1.2.1 0) (lxTxt u349 t418 (no9 + 9 + 1 + d400 + 2 + d406 + 1 + d418)) ++ ftCB9 cI cS p0 Ap ((lxTxt cp9 tp1 np1).1.2.1 0) (lxTxt cp9 tp1 np1))) := hD
                                  have hn418 : lxN t418 (no9 + 9 + 1 + d400 + 2 + d406) 1 d418 nf := hn418
                                  have ha418 : ∀ t, t < no9 + 9 + 1 + d400 + 2 + d406 → t418 t = t406 t := ha418
                                  have hd418 : 1 ≤ d418 ∧ d418 ≤ 5 := ⟨hn418.2.2.1, hn418.2.2.2.1⟩
                                  refine lv_aload_n hx hb dL_isTold_421 rfl (lv_at hl 1 rfl) ?_
                                  refine lv_bipush (v := 59) hx hb dL_isTold_422 (by decide) ?_
                                  refine ft_callB (X := (ftCB9 cI cS o0 Ao ((lxTxt u349 t418 (no9 + 9 + 1 + d400 + 2 + d406 + 1 + d418)).1.2.1 0) (lxTxt u349 t418 (no9 + 9 + 1 + d400 + 2 + d406 + 1 + d418)))) (Y := ([(t0, .inl (cI, 12, .inl tf2))] ++ ftCB9 cI cS p0 Ap ((lxTxt cp9 tp1 np1).1.2.1 0) (lxTxt cp9 tp1 np1))) (X1 := fun (u424 : ftCdT) => (ftCB9 cI cS o0 Ao (u424.1.2.1 0) u424)) (ws1 := fun (u424 : ftCdT) => ([(t0, .inl (cI, 12, .inl tf2))] ++ (ftCB9 cI cS o0 Ao (u424.1.2.1 0) u424 ++ ftCB9 cI cS p0 Ap ((lxTxt cp9 tp1 np1).1.2.1 0) (lxTxt cp9 tp1 np1)))) (va_runV (C := RX10) (As := [.int 59]) (rest := []) ⟨hx, hb, hml, hown, hts⟩ (et_type l D cI cS H.size sK sV o0 Ao (lxTxt u349 t418 (no9 + 9 + 1 + d400 + 2 + d406 + 1 + d418)) 59 (by decide) (show no9 + 9 + 1 + d400 + 2 + d406 + 1 + d418 < 120 by omega)) (cwV 1 hts gL_isTold_X10_type rfl rfl rfl (by decide +kernel) ⟨Nat.le_of_ble_eq_true rfl, Nat.le_of_ble_eq_true rfl⟩) (ft_preB (ci := 10) (List.perm_append_comm_assoc _ _ _) hP hD hKK hSt hS hA rfl rfl) rfl rfl hl.1 rfl (lv_room (Nat.le_of_ble_eq_true rfl)) dL_isTold_424 ⟨Nat.le_of_ble_eq_true rfl, Nat.le_of_ble_eq_true rfl⟩) hP hD hS hA (List.perm_append_comm_assoc _ _ _) (fun _ => (List.Perm.symm (List.perm_append_comm_assoc _ _ _))) (fun r424 u424 h424 H locs hP hD hS => ?_)
                                  have hP : va_P D vwCl ([(t0, .inl (cI, 12, .inl tf2))] ++ (ftCB9 cI cS o0 Ao (u424.1.2.1 0) u424 ++ ftCB9 cI cS p0 Ap ((lxTxt cp9 tp1 np1).1.2.1 0) (lxTxt cp9 tp1 np1))) H := hP
                                  have hD : va_D A ([(t0, .inl (cI, 12, .inl tf2))] ++ (ftCB9 cI cS o0 Ao (u424.1.2.1 0) u424 ++ ftCB9 cI cS p0 Ap ((lxTxt cp9 tp1 np1).1.2.1 0) (lxTxt cp9 tp1 np1))) := hD
                                  obtain ⟨hr424, hu424⟩ := h424
                                  subst hu424
                                  have hP : va_P D vwCl ([(t0, .inl (cI, 12, .inl tf2))] ++ (ftCB9 cI cS o0 Ao ((lxTxt u349 (upd t418 (no9 + 9 + 1 + d400 + 2 + d406 + 1 + d418) 59) (no9 + 9 + 1 + d400 + 2 + d406 + 1 + d418 + 1)).1.2.1 0) (lxTxt u349 (upd t418 (no9 + 9 + 1 + d400 + 2 + d406 + 1 + d418) 59) (no9 + 9 + 1 + d400 + 2 + d406 + 1 + d418 + 1)) ++ ftCB9 cI cS p0 Ap ((lxTxt cp9 tp1 np1).1.2.1 0) (lxTxt cp9 tp1 np1))) H := hP
                                  have hD : va_D A ([(t0, .inl (cI, 12, .inl tf2))] ++ (ftCB9 cI cS o0 Ao ((lxTxt u349 (upd t418 (no9 + 9 + 1 + d400 + 2 + d406 + 1 + d418) 59) (no9 + 9 + 1 + d400 + 2 + d406 + 1 + d418 + 1)).1.2.1 0) (lxTxt u349 (upd t418 (no9 + 9 + 1 + d400 + 2 + d406 + 1 + d418) 59) (no9 + 9 + 1 + d400 + 2 + d406 + 1 + d418 + 1)) ++ ftCB9 cI cS p0 Ap ((lxTxt cp9 tp1 np1).1.2.1 0) (lxTxt cp9 tp1 np1))) := hD
                                  refine lv_pop hx hb dL_isTold_427 rfl ?_
                                  have hk9 : kd = 1 := by omega
                                  obtain ⟨S9, D9, N8, hi1, he1, hv1, hv2, hv3⟩ := lx_it3 (j := 4) (p := no9) hn400 ha400 hn406 ha406 hn418 ha418
                                  obtain ⟨hi2, hc9⟩ := lx_end hi1 he1
                                  exact jn428 (upd t418 (no9 + 9 + 1 + d400 + 2 + d406 + 1 + d418) 59) (no9 + 9 + 1 + d400 + 2 + d406 + 1 + d418 + 1) S9 D9 N8 (by omega) (by intro t ht; rw [ftUpd_ne (by omega), ha418 t (by omega), ha406 t (by omega), ha400 t (by omega)]; exact lxTy_lo ht) (by rw [hk9]; exact hi2) (by rw [hk9]; exact congrArg Nat.succ he1) (by rw [hk9]; exact hc9) (by exact hv1.trans (lxV_1 _)) (by exact hv2.trans ((lxV_2 nl).trans hloN.symm)) (by intro _; exact hv3.trans ((lxV_1 _).trans hfl1.1.symm)) _ _ hP hD hS ls (lv_sub hl [0, 1, 2, 3, 4, 5, 6, 7, 8, 9, 10, 11, 12, 13, 14] rfl)
                        · have c357n : kd = 0 := ft_eqN (by omega) (by omega) c357
                          refine lv_ldc2 (v := 126926692377445) hx hb hown (hts (.constantLong RL 60 126926692377445) (by decide +kernel)) dL_isTold_360 ?_
                          refine lv_goto (tgt := 381) hx hb dL_isTold_363 (by decide) ?_
                          refine ft_callBv (X := (ftCB9 cI cS o0 Ao ((lxTxt u349 to9 no9).1.2.1 0) (lxTxt u349 to9 no9))) (Y := ([(t0, .inl (cI, 12, .inl tf2))] ++ ftCB9 cI cS p0 Ap ((lxTxt cp9 tp1 np1).1.2.1 0) (lxTxt cp9 tp1 np1))) (X1 := fun (u381 : ftCdT) => (ftCB9 cI cS o0 Ao (u381.1.2.1 0) u381)) (ws1 := fun (u381 : ftCdT) => ([(t0, .inl (cI, 12, .inl tf2))] ++ (ftCB9 cI cS o0 Ao (u381.1.2.1 0) u381 ++ ftCB9 cI cS p0 Ap ((lxTxt cp9 tp1 np1).1.2.1 0) (lxTxt cp9 tp1 np1)))) (va_runS (As := [.ref o0, .long 126926692377445]) (rest := []) ⟨hx, hb, hml, hown, hts⟩ (c_L_word l D cI cS H.size sK sV o0 Ao (lxTxt u349 to9 no9) 126926692377445 6 (lxWf 3) lxWd_3 (show no9 + 6 ≤ 120 by omega)) (va_cwS 2 hts gL_isTold_L_word rfl rfl rfl (by decide +kernel) ⟨Nat.le_of_ble_eq_true rfl, Nat.le_of_ble_eq_true rfl⟩) (ft_preBS (List.perm_append_comm_assoc _ _ _) hP hD hKK hSt hS hA) rfl rfl hl.1 rfl (lv_room (Nat.le_of_ble_eq_true rfl)) dL_isTold_381 ⟨Nat.le_of_ble_eq_true rfl, Nat.le_of_ble_eq_true rfl⟩) hP hD hS hA (List.perm_append_comm_assoc _ _ _) (fun _ => (List.Perm.symm (List.perm_append_comm_assoc _ _ _))) (fun u381 h381 H locs hP hD hS => ?_)
                          have hP : va_P D vwCl ([(t0, .inl (cI, 12, .inl tf2))] ++ (ftCB9 cI cS o0 Ao (u381.1.2.1 0) u381 ++ ftCB9 cI cS p0 Ap ((lxTxt cp9 tp1 np1).1.2.1 0) (lxTxt cp9 tp1 np1))) H := hP
                          have hD : va_D A ([(t0, .inl (cI, 12, .inl tf2))] ++ (ftCB9 cI cS o0 Ao (u381.1.2.1 0) u381 ++ ftCB9 cI cS p0 Ap ((lxTxt cp9 tp1 np1).1.2.1 0) (lxTxt cp9 tp1 np1))) := hD
                          have hu381 := h381
                          subst hu381
                          have hP : va_P D vwCl ([(t0, .inl (cI, 12, .inl tf2))] ++ (ftCB9 cI cS o0 Ao ((lxTxt u349 (lxTy (lxWf 3) to9 no9 6) (no9 + 6)).1.2.1 0) (lxTxt u349 (lxTy (lxWf 3) to9 no9 6) (no9 + 6)) ++ ftCB9 cI cS p0 Ap ((lxTxt cp9 tp1 np1).1.2.1 0) (lxTxt cp9 tp1 np1))) H := hP
                          have hD : va_D A ([(t0, .inl (cI, 12, .inl tf2))] ++ (ftCB9 cI cS o0 Ao ((lxTxt u349 (lxTy (lxWf 3) to9 no9 6) (no9 + 6)).1.2.1 0) (lxTxt u349 (lxTy (lxWf 3) to9 no9 6) (no9 + 6)) ++ ftCB9 cI cS p0 Ap ((lxTxt cp9 tp1 np1).1.2.1 0) (lxTxt cp9 tp1 np1))) := hD
                          refine lv_iload hx hb dL_isTold_384 (lv_at hl 10 rfl) ?_
                          refine lv_iconst (v := 1) hx hb dL_isTold_386 (by decide) ?_
                          refine lv_icmp_ne (tgt := 397) hx hb dL_isTold_387 (by decide) (fun c387 => ?_) (fun c387 => ?_)
                          · have c387n : kd ≠ 1 := ft_neN (by omega) (by omega) c387
                            refine lv_aload_n hx hb dL_isTold_397 rfl (lv_at hl 1 rfl) ?_
                            refine lv_iload hx hb dL_isTold_398 (lv_at hl 11 rfl) ?_
                            refine ft_callBv (X := (ftCB9 cI cS o0 Ao ((lxTxt u349 (lxTy (lxWf 3) to9 no9 6) (no9 + 6)).1.2.1 0) (lxTxt u349 (lxTy (lxWf 3) to9 no9 6) (no9 + 6)))) (Y := ([(t0, .inl (cI, 12, .inl tf2))] ++ ftCB9 cI cS p0 Ap ((lxTxt cp9 tp1 np1).1.2.1 0) (lxTxt cp9 tp1 np1))) (X1 := fun (u400 : ftCdT) => (ftCB9 cI cS o0 Ao (u400.1.2.1 0) u400)) (ws1 := fun (u400 : ftCdT) => ([(t0, .inl (cI, 12, .inl tf2))] ++ (ftCB9 cI cS o0 Ao (u400.1.2.1 0) u400 ++ ftCB9 cI cS p0 Ap ((lxTxt cp9 tp1 np1).1.2.1 0) (lxTxt cp9 tp1 np1)))) (va_runS (As := [.ref o0, .int (nI pl)]) (rest := []) ⟨hx, hb, hml, hown, hts⟩ (c_L_numberP l D cI cS H.size sK sV o0 Ao (lxTxt u349 (lxTy (lxWf 3) to9 no9 6) (no9 + 6)) pl (by omega) (show no9 + 6 + 7 ≤ 120 by omega)) (va_cwS 2 hts gL_isTold_L_number rfl rfl rfl (by decide +kernel) ⟨Nat.le_of_ble_eq_true rfl, Nat.le_of_ble_eq_true rfl⟩) (ft_preBS (List.perm_append_comm_assoc _ _ _) hP hD hKK hSt hS hA) rfl rfl hl.1 rfl (lv_room (Nat.le_of_ble_eq_true rfl)) dL_isTold_400 ⟨Nat.le_of_ble_eq_true rfl, Nat.le_of_ble_eq_true rfl⟩) hP hD hS hA (List.perm_append_comm_assoc _ _ _) (fun _ => (List.Perm.symm (List.perm_append_comm_assoc _ _ _))) (fun u400 h400 H locs hP hD hS => ?_)
                            have hP : va_P D vwCl ([(t0, .inl (cI, 12, .inl tf2))] ++ (ftCB9 cI cS o0 Ao (u400.1.2.1 0) u400 ++ ftCB9 cI cS p0 Ap ((lxTxt cp9 tp1 np1).1.2.1 0) (lxTxt cp9 tp1 np1))) H := hP
                            have hD : va_D A ([(t0, .inl (cI, 12, .inl tf2))] ++ (ftCB9 cI cS o0 Ao (u400.1.2.1 0) u400 ++ ftCB9 cI cS p0 Ap ((lxTxt cp9 tp1 np1).1.2.1 0) (lxTxt cp9 tp1 np1))) := hD
                            obtain ⟨d400, t400, hu400, hn400, ha400⟩ := h400
                            subst hu400
                            have hP : va_P D vwCl ([(t0, .inl (cI, 12, .inl tf2))] ++ (ftCB9 cI cS o0 Ao ((lxTxt u349 t400 (no9 + 6 + 1 + d400)).1.2.1 0) (lxTxt u349 t400 (no9 + 6 + 1 + d400)) ++ ftCB9 cI cS p0 Ap ((lxTxt cp9 tp1 np1).1.2.1 0) (lxTxt cp9 tp1 np1))) H := hP
                            have hD : va_D A ([(t0, .inl (cI, 12, .inl tf2))] ++ (ftCB9 cI cS o0 Ao ((lxTxt u349 t400 (no9 + 6 + 1 + d400)).1.2.1 0) (lxTxt u349 t400 (no9 + 6 + 1 + d400)) ++ ftCB9 cI cS p0 Ap ((lxTxt cp9 tp1 np1).1.2.1 0) (lxTxt cp9 tp1 np1))) := hD
                            have hn400 : lxN t400 (no9 + 6) 1 d400 pl := hn400
                            have ha400 : ∀ t, t < no9 + 6 → t400 t = (lxTy (lxWf 3) to9 no9 6) t := ha400
                            have hd400 : 1 ≤ d400 ∧ d400 ≤ 5 := ⟨hn400.2.2.1, hn400.2.2.2.1⟩
                            refine lv_aload_n hx hb dL_isTold_403 rfl (lv_at hl 1 rfl) ?_
                            rcases Classical.em (sl = 1) with hs1 | hs1
                            · have hloP : lo = nI nl := by rw [hlo1, hs1]; exact lxV_1 nl
                              refine lv_iload hx hb dL_isTold_404 (lv_at hl 12 rfl) ?_
                              refine ft_top (y := nI nl) hloP ?_
                              refine ft_callBv (X := (ftCB9 cI cS o0 Ao ((lxTxt u349 t400 (no9 + 6 + 1 + d400)).1.2.1 0) (lxTxt u349 t400 (no9 + 6 + 1 + d400)))) (Y := ([(t0, .inl (cI, 12, .inl tf2))] ++ ftCB9 cI cS p0 Ap ((lxTxt cp9 tp1 np1).1.2.1 0) (lxTxt cp9 tp1 np1))) (X1 := fun (u406 : ftCdT) => (ftCB9 cI cS o0 Ao (u406.1.2.1 0) u406)) (ws1 := fun (u406 : ftCdT) => ([(t0, .inl (cI, 12, .inl tf2))] ++ (ftCB9 cI cS o0 Ao (u406.1.2.1 0) u406 ++ ftCB9 cI cS p0 Ap ((lxTxt cp9 tp1 np1).1.2.1 0) (lxTxt cp9 tp1 np1)))) (va_runS (As := [.ref o0, .int (nI nl)]) (rest := []) ⟨hx, hb, hml, hown, hts⟩ (c_L_numberP l D cI cS H.size sK sV o0 Ao (lxTxt u349 t400 (no9 + 6 + 1 + d400)) nl (by omega) (show no9 + 6 + 1 + d400 + 7 ≤ 120 by omega)) (va_cwS 2 hts gL_isTold_L_number rfl rfl rfl (by decide +kernel) ⟨Nat.le_of_ble_eq_true rfl, Nat.le_of_ble_eq_true rfl⟩) (ft_preBS (List.perm_append_comm_assoc _ _ _) hP hD hKK hSt hS hA) rfl rfl hl.1 rfl (lv_room (Nat.le_of_ble_eq_true rfl)) dL_isTold_406 ⟨Nat.le_of_ble_eq_true rfl, Nat.le_of_ble_eq_true rfl⟩) hP hD hS hA (List.perm_append_comm_assoc _ _ _) (fun _ => (List.Perm.symm (List.perm_append_comm_assoc _ _ _))) (fun u406 h406 H locs hP hD hS => ?_)
                              have hP : va_P D vwCl ([(t0, .inl (cI, 12, .inl tf2))] ++ (ftCB9 cI cS o0 Ao (u406.1.2.1 0) u406 ++ ftCB9 cI cS p0 Ap ((lxTxt cp9 tp1 np1).1.2.1 0) (lxTxt cp9 tp1 np1))) H := hP
                              have hD : va_D A ([(t0, .inl (cI, 12, .inl tf2))] ++ (ftCB9 cI cS o0 Ao (u406.1.2.1 0) u406 ++ ftCB9 cI cS p0 Ap ((lxTxt cp9 tp1 np1).1.2.1 0) (lxTxt cp9 tp1 np1))) := hD
                              obtain ⟨d406, t406, hu406, hn406, ha406⟩ := h406
                              subst hu406
                              have hP : va_P D vwCl ([(t0, .inl (cI, 12, .inl tf2))] ++ (ftCB9 cI cS o0 Ao ((lxTxt u349 t406 (no9 + 6 + 1 + d400 + 1 + d406)).1.2.1 0) (lxTxt u349 t406 (no9 + 6 + 1 + d400 + 1 + d406)) ++ ftCB9 cI cS p0 Ap ((lxTxt cp9 tp1 np1).1.2.1 0) (lxTxt cp9 tp1 np1))) H := hP
                              have hD : va_D A ([(t0, .inl (cI, 12, .inl tf2))] ++ (ftCB9 cI cS o0 Ao ((lxTxt u349 t406 (no9 + 6 + 1 + d400 + 1 + d406)).1.2.1 0) (lxTxt u349 t406 (no9 + 6 + 1 + d400 + 1 + d406)) ++ ftCB9 cI cS p0 Ap ((lxTxt cp9 tp1 np1).1.2.1 0) (lxTxt cp9 tp1 np1))) := hD
                              have hn406 : lxN t406 (no9 + 6 + 1 + d400) 1 d406 nl := hn406
                              have ha406 : ∀ t, t < no9 + 6 + 1 + d400 → t406 t = t400 t := ha406
                              have hd406 : 1 ≤ d406 ∧ d406 ≤ 5 := ⟨hn406.2.2.1, hn406.2.2.2.1⟩
                              refine lv_iload hx hb dL_isTold_409 (lv_at hl 10 rfl) ?_
                              refine lv_iconst (v := 1) hx hb dL_isTold_411 (by decide) ?_
                              refine lv_icmp_ne (tgt := 421) hx hb dL_isTold_412 (by decide) (fun c412 => ?_) (fun c412 => ?_)
                              · have c412n : kd ≠ 1 := ft_neN (by omega) (by omega) c412
                                refine lv_aload_n hx hb dL_isTold_421 rfl (lv_at hl 1 rfl) ?_
                                refine lv_bipush (v := 59) hx hb dL_isTold_422 (by decide) ?_
                                refine ft_callB (X := (ftCB9 cI cS o0 Ao ((lxTxt u349 t406 (no9 + 6 + 1 + d400 + 1 + d406)).1.2.1 0) (lxTxt u349 t406 (no9 + 6 + 1 + d400 + 1 + d406)))) (Y := ([(t0, .inl (cI, 12, .inl tf2))] ++ ftCB9 cI cS p0 Ap ((lxTxt cp9 tp1 np1).1.2.1 0) (lxTxt cp9 tp1 np1))) (X1 := fun (u424 : ftCdT) => (ftCB9 cI cS o0 Ao (u424.1.2.1 0) u424)) (ws1 := fun (u424 : ftCdT) => ([(t0, .inl (cI, 12, .inl tf2))] ++ (ftCB9 cI cS o0 Ao (u424.1.2.1 0) u424 ++ ftCB9 cI cS p0 Ap ((lxTxt cp9 tp1 np1).1.2.1 0) (lxTxt cp9 tp1 np1)))) (va_runV (C := RX10) (As := [.int 59]) (rest := []) ⟨hx, hb, hml, hown, hts⟩ (et_type l D cI cS H.size sK sV o0 Ao (lxTxt u349 t406 (no9 + 6 + 1 + d400 + 1 + d406)) 59 (by decide) (show no9 + 6 + 1 + d400 + 1 + d406 < 120 by omega)) (cwV 1 hts gL_isTold_X10_type rfl rfl rfl (by decide +kernel) ⟨Nat.le_of_ble_eq_true rfl, Nat.le_of_ble_eq_true rfl⟩) (ft_preB (ci := 10) (List.perm_append_comm_assoc _ _ _) hP hD hKK hSt hS hA rfl rfl) rfl rfl hl.1 rfl (lv_room (Nat.le_of_ble_eq_true rfl)) dL_isTold_424 ⟨Nat.le_of_ble_eq_true rfl, Nat.le_of_ble_eq_true rfl⟩) hP hD hS hA (List.perm_append_comm_assoc _ _ _) (fun _ => (List.Perm.symm (List.perm_append_comm_assoc _ _ _))) (fun r424 u424 h424 H locs hP hD hS => ?_)
                                have hP : va_P D vwCl ([(t0, .inl (cI, 12, .inl tf2))] ++ (ftCB9 cI cS o0 Ao (u424.1.2.1 0) u424 ++ ftCB9 cI cS p0 Ap ((lxTxt cp9 tp1 np1).1.2.1 0) (lxTxt cp9 tp1 np1))) H := hP
                                have hD : va_D A ([(t0, .inl (cI, 12, .inl tf2))] ++ (ftCB9 cI cS o0 Ao (u424.1.2.1 0) u424 ++ ftCB9 cI cS p0 Ap ((lxTxt cp9 tp1 np1).1.2.1 0) (lxTxt cp9 tp1 np1))) := hD
                                obtain ⟨hr424, hu424⟩ := h424
                                subst hu424
                                have hP : va_P D vwCl ([(t0, .inl (cI, 12, .inl tf2))] ++ (ftCB9 cI cS o0 Ao ((lxTxt u349 (upd t406 (no9 + 6 + 1 + d400 + 1 + d406) 59) (no9 + 6 + 1 + d400 + 1 + d406 + 1)).1.2.1 0) (lxTxt u349 (upd t406 (no9 + 6 + 1 + d400 + 1 + d406) 59) (no9 + 6 + 1 + d400 + 1 + d406 + 1)) ++ ftCB9 cI cS p0 Ap ((lxTxt cp9 tp1 np1).1.2.1 0) (lxTxt cp9 tp1 np1))) H := hP
                                have hD : va_D A ([(t0, .inl (cI, 12, .inl tf2))] ++ (ftCB9 cI cS o0 Ao ((lxTxt u349 (upd t406 (no9 + 6 + 1 + d400 + 1 + d406) 59) (no9 + 6 + 1 + d400 + 1 + d406 + 1)).1.2.1 0) (lxTxt u349 (upd t406 (no9 + 6 + 1 + d400 + 1 + d406) 59) (no9 + 6 + 1 + d400 + 1 + d406 + 1)) ++ ftCB9 cI cS p0 Ap ((lxTxt cp9 tp1 np1).1.2.1 0) (lxTxt cp9 tp1 np1))) := hD
                                refine lv_pop hx hb dL_isTold_427 rfl ?_
                                have hk9 : kd = 0 := by omega
                                obtain ⟨S9, D9, N8, hi1, he1, hv1, hv2⟩ := lx_it2 (j := 3) (p := no9) hn400 ha400 hn406 ha406
                                obtain ⟨hi2, hc9⟩ := lx_end hi1 he1
                                exact jn428 (upd t406 (no9 + 6 + 1 + d400 + 1 + d406) 59) (no9 + 6 + 1 + d400 + 1 + d406 + 1) S9 D9 N8 (by omega) (by intro t ht; rw [ftUpd_ne (by omega), ha406 t (by omega), ha400 t (by omega)]; exact lxTy_lo ht) (by rw [hk9]; exact hi2) (by rw [hk9]; exact congrArg Nat.succ he1) (by rw [hk9]; exact hc9) (by exact hv1.trans (lxV_1 _)) (by exact hv2.trans ((lxV_1 nl).trans hloP.symm)) (by intro q; exact absurd q (by omega)) _ _ hP hD hS ls (lv_sub hl [0, 1, 2, 3, 4, 5, 6, 7, 8, 9, 10, 11, 12, 13, 14] rfl)
                              · have c412n : kd = 1 := ft_eqN (by omega) (by omega) c412
                                exact absurd c412 c387
                            · have hs2 := hlo2.resolve_left hs1
                              have hloN : lo = -nI nl := by rw [hlo1, hs2.1]; exact lxV_2 nl
                              refine lv_iload hx hb dL_isTold_404 (lv_at hl 12 rfl) ?_
                              refine ft_top (y := -nI nl) hloN ?_
                              refine ft_callBv (X := (ftCB9 cI cS o0 Ao ((lxTxt u349 t400 (no9 + 6 + 1 + d400)).1.2.1 0) (lxTxt u349 t400 (no9 + 6 + 1 + d400)))) (Y := ([(t0, .inl (cI, 12, .inl tf2))] ++ ftCB9 cI cS p0 Ap ((lxTxt cp9 tp1 np1).1.2.1 0) (lxTxt cp9 tp1 np1))) (X1 := fun (u406 : ftCdT) => (ftCB9 cI cS o0 Ao (u406.1.2.1 0) u406)) (ws1 := fun (u406 : ftCdT) => ([(t0, .inl (cI, 12, .inl tf2))] ++ (ftCB9 cI cS o0 Ao (u406.1.2.1 0) u406 ++ ftCB9 cI cS p0 Ap ((lxTxt cp9 tp1 np1).1.2.1 0) (lxTxt cp9 tp1 np1)))) (va_runS (As := [.ref o0, .int (-nI nl)]) (rest := []) ⟨hx, hb, hml, hown, hts⟩ (c_L_numberN l D cI cS H.size sK sV o0 Ao (lxTxt u349 t400 (no9 + 6 + 1 + d400)) nl (by omega) (by omega) (show no9 + 6 + 1 + d400 + 7 ≤ 120 by omega)) (va_cwS 2 hts gL_isTold_L_number rfl rfl rfl (by decide +kernel) ⟨Nat.le_of_ble_eq_true rfl, Nat.le_of_ble_eq_true rfl⟩) (ft_preBS (List.perm_append_comm_assoc _ _ _) hP hD hKK hSt hS hA) rfl rfl hl.1 rfl (lv_room (Nat.le_of_ble_eq_true rfl)) dL_isTold_406 ⟨Nat.le_of_ble_eq_true rfl, Nat.le_of_ble_eq_true rfl⟩) hP hD hS hA (List.perm_append_comm_assoc _ _ _) (fun _ => (List.Perm.symm (List.perm_append_comm_assoc _ _ _))) (fun u406 h406 H locs hP hD hS => ?_)
                              have hP : va_P D vwCl ([(t0, .inl (cI, 12, .inl tf2))] ++ (ftCB9 cI cS o0 Ao (u406.1.2.1 0) u406 ++ ftCB9 cI cS p0 Ap ((lxTxt cp9 tp1 np1).1.2.1 0) (lxTxt cp9 tp1 np1))) H := hP
                              have hD : va_D A ([(t0, .inl (cI, 12, .inl tf2))] ++ (ftCB9 cI cS o0 Ao (u406.1.2.1 0) u406 ++ ftCB9 cI cS p0 Ap ((lxTxt cp9 tp1 np1).1.2.1 0) (lxTxt cp9 tp1 np1))) := hD
                              obtain ⟨d406, t406, hu406, hn406, ha406⟩ := h406
                              subst hu406
                              have hP : va_P D vwCl ([(t0, .inl (cI, 12, .inl tf2))] ++ (ftCB9 cI cS o0 Ao ((lxTxt u349 t406 (no9 + 6 + 1 + d400 + 2 + d406)).1.2.1 0) (lxTxt u349 t406 (no9 + 6 + 1 + d400 + 2 + d406)) ++ ftCB9 cI cS p0 Ap ((lxTxt cp9 tp1 np1).1.2.1 0) (lxTxt cp9 tp1 np1))) H := hP
                              have hD : va_D A ([(t0, .inl (cI, 12, .inl tf2))] ++ (ftCB9 cI cS o0 Ao ((lxTxt u349 t406 (no9 + 6 + 1 + d400 + 2 + d406)).1.2.1 0) (lxTxt u349 t406 (no9 + 6 + 1 + d400 + 2 + d406)) ++ ftCB9 cI cS p0 Ap ((lxTxt cp9 tp1 np1).1.2.1 0) (lxTxt cp9 tp1 np1))) := hD
                              have hn406 : lxN t406 (no9 + 6 + 1 + d400) 2 d406 nl := hn406
                              have ha406 : ∀ t, t < no9 + 6 + 1 + d400 → t406 t = t400 t := ha406
                              have hd406 : 1 ≤ d406 ∧ d406 ≤ 5 := ⟨hn406.2.2.1, hn406.2.2.2.1⟩
                              refine lv_iload hx hb dL_isTold_409 (lv_at hl 10 rfl) ?_
                              refine lv_iconst (v := 1) hx hb dL_isTold_411 (by decide) ?_
                              refine lv_icmp_ne (tgt := 421) hx hb dL_isTold_412 (by decide) (fun c412 => ?_) (fun c412 => ?_)
                              · have c412n : kd ≠ 1 := ft_neN (by omega) (by omega) c412
                                refine lv_aload_n hx hb dL_isTold_421 rfl (lv_at hl 1 rfl) ?_
                                refine lv_bipush (v := 59) hx hb dL_isTold_422 (by decide) ?_
                                refine ft_callB (X := (ftCB9 cI cS o0 Ao ((lxTxt u349 t406 (no9 + 6 + 1 + d400 + 2 + d406)).1.2.1 0) (lxTxt u349 t406 (no9 + 6 + 1 + d400 + 2 + d406)))) (Y := ([(t0, .inl (cI, 12, .inl tf2))] ++ ftCB9 cI cS p0 Ap ((lxTxt cp9 tp1 np1).1.2.1 0) (lxTxt cp9 tp1 np1))) (X1 := fun (u424 : ftCdT) => (ftCB9 cI cS o0 Ao (u424.1.2.1 0) u424)) (ws1 := fun (u424 : ftCdT) => ([(t0, .inl (cI, 12, .inl tf2))] ++ (ftCB9 cI cS o0 Ao (u424.1.2.1 0) u424 ++ ftCB9 cI cS p0 Ap ((lxTxt cp9 tp1 np1).1.2.1 0) (lxTxt cp9 tp1 np1)))) (va_runV (C := RX10) (As := [.int 59]) (rest := []) ⟨hx, hb, hml, hown, hts⟩ (et_type l D cI cS H.size sK sV o0 Ao (lxTxt u349 t406 (no9 + 6 + 1 + d400 + 2 + d406)) 59 (by decide) (show no9 + 6 + 1 + d400 + 2 + d406 < 120 by omega)) (cwV 1 hts gL_isTold_X10_type rfl rfl rfl (by decide +kernel) ⟨Nat.le_of_ble_eq_true rfl, Nat.le_of_ble_eq_true rfl⟩) (ft_preB (ci := 10) (List.perm_append_comm_assoc _ _ _) hP hD hKK hSt hS hA rfl rfl) rfl rfl hl.1 rfl (lv_room (Nat.le_of_ble_eq_true rfl)) dL_isTold_424 ⟨Nat.le_of_ble_eq_true rfl, Nat.le_of_ble_eq_true rfl⟩) hP hD hS hA (List.perm_append_comm_assoc _ _ _) (fun _ => (List.Perm.symm (List.perm_append_comm_assoc _ _ _))) (fun r424 u424 h424 H locs hP hD hS => ?_)
                                have hP : va_P D vwCl ([(t0, .inl (cI, 12, .inl tf2))] ++ (ftCB9 cI cS o0 Ao (u424.1.2.1 0) u424 ++ ftCB9 cI cS p0 Ap ((lxTxt cp9 tp1 np1).1.2.1 0) (lxTxt cp9 tp1 np1))) H := hP
                                have hD : va_D A ([(t0, .inl (cI, 12, .inl tf2))] ++ (ftCB9 cI cS o0 Ao (u424.1.2.1 0) u424 ++ ftCB9 cI cS p0 Ap ((lxTxt cp9 tp1 np1).1.2.1 0) (lxTxt cp9 tp1 np1))) := hD
                                obtain ⟨hr424, hu424⟩ := h424
                                subst hu424
                                have hP : va_P D vwCl ([(t0, .inl (cI, 12, .inl tf2))] ++ (ftCB9 cI cS o0 Ao ((lxTxt u349 (upd t406 (no9 + 6 + 1 + d400 + 2 + d406) 59) (no9 + 6 + 1 + d400 + 2 + d406 + 1)).1.2.1 0) (lxTxt u349 (upd t406 (no9 + 6 + 1 + d400 + 2 + d406) 59) (no9 + 6 + 1 + d400 + 2 + d406 + 1)) ++ ftCB9 cI cS p0 Ap ((lxTxt cp9 tp1 np1).1.2.1 0) (lxTxt cp9 tp1 np1))) H := hP
                                have hD : va_D A ([(t0, .inl (cI, 12, .inl tf2))] ++ (ftCB9 cI cS o0 Ao ((lxTxt u349 (upd t406 (no9 + 6 + 1 + d400 + 2 + d406) 59) (no9 + 6 + 1 + d400 + 2 + d406 + 1)).1.2.1 0) (lxTxt u349 (upd t406 (no9 + 6 + 1 + d400 + 2 + d406) 59) (no9 + 6 + 1 + d400 + 2 + d406 + 1)) ++ ftCB9 cI cS p0 Ap ((lxTxt cp9 tp1 np1).1.2.1 0) (lxTxt cp9 tp1 np1))) := hD
                                refine lv_pop hx hb dL_isTold_427 rfl ?_
                                have hk9 : kd = 0 := by omega
                                obtain ⟨S9, D9, N8, hi1, he1, hv1, hv2⟩ := lx_it2 (j := 3) (p := no9) hn400 ha400 hn406 ha406
                                obtain ⟨hi2, hc9⟩ := lx_end hi1 he1
                                exact jn428 (upd t406 (no9 + 6 + 1 + d400 + 2 + d406) 59) (no9 + 6 + 1 + d400 + 2 + d406 + 1) S9 D9 N8 (by omega) (by intro t ht; rw [ftUpd_ne (by omega), ha406 t (by omega), ha400 t (by omega)]; exact lxTy_lo ht) (by rw [hk9]; exact hi2) (by rw [hk9]; exact congrArg Nat.succ he1) (by rw [hk9]; exact hc9) (by exact hv1.trans (lxV_1 _)) (by exact hv2.trans ((lxV_2 nl).trans hloN.symm)) (by intro q; exact absurd q (by omega)) _ _ hP hD hS ls (lv_sub hl [0, 1, 2, 3, 4, 5, 6, 7, 8, 9, 10, 11, 12, 13, 14] rfl)
                              · have c412n : kd = 1 := ft_eqN (by omega) (by omega) c412
                                exact absurd c412 c387
                          · have c387n : kd = 1 := ft_eqN (by omega) (by omega) c387
                            exact absurd (c357.symm.trans c387) (by decide)
                      refine lv_iconst (v := 4) hx hb dL_isTold_320 (by decide) ?_
                      refine lv_iload hx hb dL_isTold_321 (lv_at hl 8 rfl) ?_
                      refine lv_imul hx hb dL_isTold_323 ?_
                      refine ft_top (y := nI (4 * kk)) (ft_mulN 4 kk) ?_
                      refine lv_iload hx hb dL_isTold_324 (lv_at hl 9 rfl) ?_
                      refine va_iast hx hb hK hP hD hS 0 0 rfl rfl (vp_in_nI (by omega) (by omega)) dL_isTold_326 (fun H locs hP hD hS => ?_)
                      rw [nI_clamp (show 4 * kk < 2 ^ 31 by omega)] at hP hD
                      have hP : va_P D vwCl ([(t0, .inl (cI, 12, .inl (upd tf9 (4 * kk) (nI kd))))] ++ (ftCB9 cI cS o0 Ao ((lxTxt co9 to9 no9).1.2.1 0) (lxTxt co9 to9 no9) ++ ftCB9 cI cS p0 Ap ((lxTxt cp9 tp1 np1).1.2.1 0) (lxTxt cp9 tp1 np1))) H := hP
                      have hD : va_D A ([(t0, .inl (cI, 12, .inl (upd tf9 (4 * kk) (nI kd))))] ++ (ftCB9 cI cS o0 Ao ((lxTxt co9 to9 no9).1.2.1 0) (lxTxt co9 to9 no9) ++ ftCB9 cI cS p0 Ap ((lxTxt cp9 tp1 np1).1.2.1 0) (lxTxt cp9 tp1 np1))) := hD
                      refine lv_aload_n hx hb dL_isTold_327 rfl (lv_at hl 2 rfl) ?_
                      refine lv_iconst (v := 4) hx hb dL_isTold_328 (by decide) ?_
                      refine lv_iload hx hb dL_isTold_329 (lv_at hl 8 rfl) ?_
                      refine lv_imul hx hb dL_isTold_331 ?_
                      refine ft_top (y := nI (4 * kk)) (ft_mulN 4 kk) ?_
                      refine lv_iconst (v := 1) hx hb dL_isTold_332 (by decide) ?_
                      refine lv_iadd hx hb dL_isTold_333 ?_
                      refine ft_top (y := nI ((4 * kk) + 1)) (ft_addN (4 * kk) 1) ?_
                      refine lv_iload hx hb dL_isTold_334 (lv_at hl 13 rfl) ?_
                      refine lv_if_eq (tgt := 343) hx hb dL_isTold_336 (by decide) (fun c336 => ?_) (fun c336 => ?_)
                      · replace c336 := ftB_eq c336
                        refine lv_iload hx hb dL_isTold_343 (lv_at hl 10 rfl) ?_
                        refine va_iast hx hb hK hP hD hS 0 0 rfl rfl (vp_in_nI (by omega) (by omega)) dL_isTold_345 (fun H locs hP hD hS => ?_)
                        rw [nI_clamp (show (4 * kk) + 1 < 2 ^ 31 by omega)] at hP hD
                        have hP : va_P D vwCl ([(t0, .inl (cI, 12, .inl (upd (upd tf9 (4 * kk) (nI kd)) ((4 * kk) + 1) (nI pl))))] ++ (ftCB9 cI cS o0 Ao ((lxTxt co9 to9 no9).1.2.1 0) (lxTxt co9 to9 no9) ++ ftCB9 cI cS p0 Ap ((lxTxt cp9 tp1 np1).1.2.1 0) (lxTxt cp9 tp1 np1))) H := hP
                        have hD : va_D A ([(t0, .inl (cI, 12, .inl (upd (upd tf9 (4 * kk) (nI kd)) ((4 * kk) + 1) (nI pl))))] ++ (ftCB9 cI cS o0 Ao ((lxTxt co9 to9 no9).1.2.1 0) (lxTxt co9 to9 no9) ++ ftCB9 cI cS p0 Ap ((lxTxt cp9 tp1 np1).1.2.1 0) (lxTxt cp9 tp1 np1))) := hD
                        exact jn346 (upd (upd tf9 (4 * kk) (nI kd)) ((4 * kk) + 1) (nI pl)) (by intro q; first | exact ftUpd_at0 | exact absurd c336 q) (by intro i hi; rw [ftUpd_ne (by omega), ftUpd_ne (by omega)]) _ _ hP hD hS ls (lv_sub hl [0, 1, 2, 3, 4, 5, 6, 7, 8, 9, 10, 11, 12, 13, 14] rfl)
                      · replace c336 := ftB_ne c336
                        refine lv_iconst (v := 0) hx hb dL_isTold_339 (by decide) ?_
                        refine lv_goto (tgt := 345) hx hb dL_isTold_340 (by decide) ?_
                        refine va_iast hx hb hK hP hD hS 0 0 rfl rfl (vp_in_nI (by omega) (by omega)) dL_isTold_345 (fun H locs hP hD hS => ?_)
                        rw [nI_clamp (show (4 * kk) + 1 < 2 ^ 31 by omega)] at hP hD
                        have hP : va_P D vwCl ([(t0, .inl (cI, 12, .inl (upd (upd tf9 (4 * kk) (nI kd)) ((4 * kk) + 1) 0)))] ++ (ftCB9 cI cS o0 Ao ((lxTxt co9 to9 no9).1.2.1 0) (lxTxt co9 to9 no9) ++ ftCB9 cI cS p0 Ap ((lxTxt cp9 tp1 np1).1.2.1 0) (lxTxt cp9 tp1 np1))) H := hP
                        have hD : va_D A ([(t0, .inl (cI, 12, .inl (upd (upd tf9 (4 * kk) (nI kd)) ((4 * kk) + 1) 0)))] ++ (ftCB9 cI cS o0 Ao ((lxTxt co9 to9 no9).1.2.1 0) (lxTxt co9 to9 no9) ++ ftCB9 cI cS p0 Ap ((lxTxt cp9 tp1 np1).1.2.1 0) (lxTxt cp9 tp1 np1))) := hD
                        exact jn346 (upd (upd tf9 (4 * kk) (nI kd)) ((4 * kk) + 1) 0) (by intro q; first | exact ftUpd_at0 | exact absurd c336 q) (by intro i hi; rw [ftUpd_ne (by omega), ftUpd_ne (by omega)]) _ _ hP hD hS ls (lv_sub hl [0, 1, 2, 3, 4, 5, 6, 7, 8, 9, 10, 11, 12, 13, 14] rfl)
                    · have c285n : i9 < kk := ft_nleN (by omega) (by omega) c285
                      refine lv_iload hx hb dL_isTold_288 (lv_at hl 13 rfl) ?_
                      refine lv_if_ne (tgt := 306) hx hb dL_isTold_290 (by decide) (fun c290 => ?_) (fun c290 => ?_)
                      · replace c290 := ftB_ne c290
                        refine lv_iconst (v := 1) hx hb dL_isTold_306 (by decide) ?_
                        refine lv_goto (tgt := 311) hx hb dL_isTold_307 (by decide) ?_
                        refine lv_istore (lv' := [(13, .int 1), (0, .ref o0), (1, .ref p0), (2, .ref t0), (3, .int (nI C)), (4, .int (nI V2)), (5, .int (nI N9)), (6, .int (nI LN)), (7, .int 1), (8, .int (nI kk)), (9, .int (nI kd)), (10, .int (nI pl)), (11, .int lo), (12, .int fl), (14, .int (nI i9))]) hx hb dL_isTold_311 hl (by decide) rfl (fun ls hl => ?_)
                        refine lv_iinc (v := nI (i9 + 1)) (lv' := [(14, .int (nI (i9 + 1))), (13, .int 1), (0, .ref o0), (1, .ref p0), (2, .ref t0), (3, .int (nI C)), (4, .int (nI V2)), (5, .int (nI N9)), (6, .int (nI LN)), (7, .int 1), (8, .int (nI kk)), (9, .int (nI kd)), (10, .int (nI pl)), (11, .int lo), (12, .int fl)]) hx hb dL_isTold_313 hl (k := 14) rfl (ft_inc i9) (by decide) rfl (fun ls hl => ?_)
                        refine lv_goto (tgt := 281) hx hb dL_isTold_316 (by decide) ?_
                        exact ih281 (i9 + 1) 1 (nI (i9 + 1))  (by omega) (by omega) (by first | exact (ftB_t (lx_ex1 c290)).symm | exact (ftB_t (lx_ex2 (P := fun i => tf9 (4 * i + 1) = nI pl) c303)).symm | exact (ftB_f (lx_ex3 c290 c303)).symm) (by first | rfl | assumption)  _ _ hP hD hS ls (lv_sub hl [2, 3, 4, 5, 6, 7, 8, 9, 10, 11, 12, 13, 14, 1, 0] rfl)
                      · replace c290 := ftB_eq c290
                        refine lv_aload_n hx hb dL_isTold_293 rfl (lv_at hl 2 rfl) ?_
                        refine lv_iconst (v := 4) hx hb dL_isTold_294 (by decide) ?_
                        refine lv_iload hx hb dL_isTold_295 (lv_at hl 14 rfl) ?_
                        refine lv_imul hx hb dL_isTold_297 ?_
                        refine ft_top (y := nI (4 * i9)) (ft_mulN 4 i9) ?_
                        refine lv_iconst (v := 1) hx hb dL_isTold_298 (by decide) ?_
                        refine lv_iadd hx hb dL_isTold_299 ?_
                        refine ft_top (y := nI ((4 * i9) + 1)) (ft_addN (4 * i9) 1) ?_
                        refine va_iald hx hb hK hP 0 0 rfl rfl (vp_in_nI (by omega) (by omega)) dL_isTold_300 ?_
                        refine ft_top (y := tf9 ((4 * i9) + 1)) (ft_clampN (by omega)) ?_
                        refine lv_iload hx hb dL_isTold_301 (lv_at hl 10 rfl) ?_
                        refine lv_icmp_ne (tgt := 310) hx hb dL_isTold_303 (by decide) (fun c303 => ?_) (fun c303 => ?_)
                        · refine lv_iconst (v := 0) hx hb dL_isTold_310 (by decide) ?_
                          refine lv_istore (lv' := [(13, .int 0), (0, .ref o0), (1, .ref p0), (2, .ref t0), (3, .int (nI C)), (4, .int (nI V2)), (5, .int (nI N9)), (6, .int (nI LN)), (7, .int 1), (8, .int (nI kk)), (9, .int (nI kd)), (10, .int (nI pl)), (11, .int lo), (12, .int fl), (14, .int (nI i9))]) hx hb dL_isTold_311 hl (by decide) rfl (fun ls hl => ?_)
                          refine lv_iinc (v := nI (i9 + 1)) (lv' := [(14, .int (nI (i9 + 1))), (13, .int 0), (0, .ref o0), (1, .ref p0), (2, .ref t0), (3, .int (nI C)), (4, .int (nI V2)), (5, .int (nI N9)), (6, .int (nI LN)), (7, .int 1), (8, .int (nI kk)), (9, .int (nI kd)), (10, .int (nI pl)), (11, .int lo), (12, .int fl)]) hx hb dL_isTold_313 hl (k := 14) rfl (ft_inc i9) (by decide) rfl (fun ls hl => ?_)
                          refine lv_goto (tgt := 281) hx hb dL_isTold_316 (by decide) ?_
                          exact ih281 (i9 + 1) 0 (nI (i9 + 1))  (by omega) (by omega) (by first | exact (ftB_t (lx_ex1 c290)).symm | exact (ftB_t (lx_ex2 (P := fun i => tf9 (4 * i + 1) = nI pl) c303)).symm | exact (ftB_f (lx_ex3 c290 c303)).symm) (by first | rfl | assumption)  _ _ hP hD hS ls (lv_sub hl [2, 3, 4, 5, 6, 7, 8, 9, 10, 11, 12, 13, 14, 1, 0] rfl)
                        · refine lv_iconst (v := 1) hx hb dL_isTold_306 (by decide) ?_
                          refine lv_goto (tgt := 311) hx hb dL_isTold_307 (by decide) ?_
                          refine lv_istore (lv' := [(13, .int 1), (0, .ref o0), (1, .ref p0), (2, .ref t0), (3, .int (nI C)), (4, .int (nI V2)), (5, .int (nI N9)), (6, .int (nI LN)), (7, .int 1), (8, .int (nI kk)), (9, .int (nI kd)), (10, .int (nI pl)), (11, .int lo), (12, .int fl), (14, .int (nI i9))]) hx hb dL_isTold_311 hl (by decide) rfl (fun ls hl => ?_)
                          refine lv_iinc (v := nI (i9 + 1)) (lv' := [(14, .int (nI (i9 + 1))), (13, .int 1), (0, .ref o0), (1, .ref p0), (2, .ref t0), (3, .int (nI C)), (4, .int (nI V2)), (5, .int (nI N9)), (6, .int (nI LN)), (7, .int 1), (8, .int (nI kk)), (9, .int (nI kd)), (10, .int (nI pl)), (11, .int lo), (12, .int fl)]) hx hb dL_isTold_313 hl (k := 14) rfl (ft_inc i9) (by decide) rfl (fun ls hl => ?_)
                          refine lv_goto (tgt := 281) hx hb dL_isTold_316 (by decide) ?_
                          exact ih281 (i9 + 1) 1 (nI (i9 + 1))  (by omega) (by omega) (by first | exact (ftB_t (lx_ex1 c290)).symm | exact (ftB_t (lx_ex2 (P := fun i => tf9 (4 * i + 1) = nI pl) c303)).symm | exact (ftB_f (lx_ex3 c290 c303)).symm) (by first | rfl | assumption)  _ _ hP hD hS ls (lv_sub hl [2, 3, 4, 5, 6, 7, 8, 9, 10, 11, 12, 13, 14, 1, 0] rfl)
                exact lp281 _ 0 0 0  (Nat.lt_succ_self _) (by omega) (by exact (ftB_f (fun ⟨i, hi, _⟩ => absurd hi (Nat.not_lt_zero i))).symm) (by rfl) _ _ hP hD hS ls (lv_sub hl [5, 6, 7, 8, 4, 9, 10, 11, 12, 3, 2, 13, 14, 1, 0] rfl)
              refine lv_if_ne (tgt := 227) hx hb dL_isTold_209 (by decide) (fun c209 => ?_) (fun c209 => ?_)
              · have c209n : kd ≠ 0 := ft_neN (by omega) (by omega) c209
                refine lv_iload hx hb dL_isTold_227 (lv_at hl 1 rfl) ?_
                refine lv_iconst (v := 1) hx hb dL_isTold_229 (by decide) ?_
                refine lv_icmp_ne (tgt := 244) hx hb dL_isTold_230 (by decide) (fun c230 => ?_) (fun c230 => ?_)
                · have c230n : kd ≠ 1 := ft_neN (by omega) (by omega) c230
                  refine lv_iload hx hb dL_isTold_244 (lv_at hl 2 rfl) ?_
                  refine lv_iconst (v := 3) hx hb dL_isTold_246 (by decide) ?_
                  refine lv_ishr hx hb dL_isTold_247 ?_
                  refine ft_top (y := nI (V2 / 8)) (pk_shrN hV2 _ 3 (by decide)) ?_
                  refine lv_bipush (v := 51) hx hb dL_isTold_248 (by decide) ?_
                  refine lv_irem hx hb dL_isTold_250 (by decide) ?_
                  refine ft_top (y := ftRemI (nI (V2 / 8)) 51) rfl ?_
                  refine ft_top (y := nI (V2 / 8 % 51)) (ft_remN (b := 51) (by omega) (by omega) (by omega)) ?_
                  refine lv_istore (lv' := [(11, .int (nI (V2 / 8 % 51))), (10, .int (nI pl)), (9, .int (nI kd)), (4, .int (nI V2)), (0, .ref o0), (1, .ref p0), (2, .ref t0), (3, .int (nI C)), (5, .int (nI N9)), (6, .int (nI LN)), (7, .int 1), (8, .int (nI kk))]) hx hb dL_isTold_251 hl (by decide) rfl (fun ls hl => ?_)
                  refine lv_iload hx hb dL_isTold_253 (lv_at hl 2 rfl) ?_
                  refine lv_iconst (v := 1) hx hb dL_isTold_255 (by decide) ?_
                  refine lv_icmp_ne (tgt := 272) hx hb dL_isTold_256 (by decide) (fun c256 => ?_) (fun c256 => ?_)
                  · have c256n : kd ≠ 1 := ft_neN (by omega) (by omega) c256
                    refine lv_iconst (v := 0) hx hb dL_isTold_272 (by decide) ?_
                    refine lv_istore (lv' := [(12, .int 0), (11, .int (nI (V2 / 8 % 51))), (10, .int (nI pl)), (9, .int (nI kd)), (4, .int (nI V2)), (0, .ref o0), (1, .ref p0), (2, .ref t0), (3, .int (nI C)), (5, .int (nI N9)), (6, .int (nI LN)), (7, .int 1), (8, .int (nI kk))]) hx hb dL_isTold_273 hl (by decide) rfl (fun ls hl => ?_)
                    exact jn275 (nI (V2 / 8 % 51)) 0 1 (V2 / 8 % 51) 0 (by exact (lxV_1 _).symm) (by exact Or.inl rfl) (by omega) (by exact Or.inr (Or.inr ⟨by omega, nI_le (a := 0) (Nat.zero_le _) (by omega), nI_le (b := 50) (by omega) (by omega)⟩)) (by exact ⟨rfl, by omega⟩) (by exact Or.inr ⟨by omega, rfl⟩) _ _ hP hD hS ls (lv_sub hl [2, 3, 4, 5, 6, 7, 8, 9, 10, 11, 12, 1, 0] rfl)
                  · have c256n : kd = 1 := ft_eqN (by omega) (by omega) c256
                    exact absurd c256 c230
                · have c230n : kd = 1 := ft_eqN (by omega) (by omega) c230
                  refine lv_iload hx hb dL_isTold_233 (lv_at hl 2 rfl) ?_
                  refine lv_iconst (v := 3) hx hb dL_isTold_235 (by decide) ?_
                  refine lv_ishr hx hb dL_isTold_236 ?_
                  refine ft_top (y := nI (V2 / 8)) (pk_shrN hV2 _ 3 (by decide)) ?_
                  refine lv_sipush (v := 5001) hx hb dL_isTold_237 (by decide) ?_
                  refine lv_irem hx hb dL_isTold_240 (by decide) ?_
                  refine ft_top (y := ftRemI (nI (V2 / 8)) 5001) rfl ?_
                  refine ft_top (y := nI (V2 / 8 % 5001)) (ft_remN (b := 5001) (by omega) (by omega) (by omega)) ?_
                  refine lv_goto (tgt := 251) hx hb dL_isTold_241 (by decide) ?_
                  refine lv_istore (lv' := [(11, .int (nI (V2 / 8 % 5001))), (10, .int (nI pl)), (9, .int (nI kd)), (4, .int (nI V2)), (0, .ref o0), (1, .ref p0), (2, .ref t0), (3, .int (nI C)), (5, .int (nI N9)), (6, .int (nI LN)), (7, .int 1), (8, .int (nI kk))]) hx hb dL_isTold_251 hl (by decide) rfl (fun ls hl => ?_)
                  refine lv_iload hx hb dL_isTold_253 (lv_at hl 2 rfl) ?_
                  refine lv_iconst (v := 1) hx hb dL_isTold_255 (by decide) ?_
                  refine lv_icmp_ne (tgt := 272) hx hb dL_isTold_256 (by decide) (fun c256 => ?_) (fun c256 => ?_)
                  · have c256n : kd ≠ 1 := ft_neN (by omega) (by omega) c256
                    exact absurd c230 c256
                  · have c256n : kd = 1 := ft_eqN (by omega) (by omega) c256
                    refine lv_iconst (v := 1) hx hb dL_isTold_259 (by decide) ?_
                    refine lv_iload hx hb dL_isTold_260 (lv_at hl 3 rfl) ?_
                    refine lv_iconst (v := 5) hx hb dL_isTold_262 (by decide) ?_
                    refine lv_ishr hx hb dL_isTold_263 ?_
                    refine ft_top (y := nI (V2 / 32)) (pk_shrN hV2 _ 5 (by decide)) ?_
                    refine lv_sipush (v := 20000) hx hb dL_isTold_264 (by decide) ?_
                    refine lv_irem hx hb dL_isTold_267 (by decide) ?_
                    refine ft_top (y := ftRemI (nI (V2 / 32)) 20000) rfl ?_
                    refine ft_top (y := nI (V2 / 32 % 20000)) (ft_remN (b := 20000) (by omega) (by omega) (by omega)) ?_
                    refine lv_iadd hx hb dL_isTold_268 ?_
                    refine ft_top (y := nI (1 + (V2 / 32 % 20000))) (ft_addN 1 (V2 / 32 % 20000)) ?_
                    refine lv_goto (tgt := 273) hx hb dL_isTold_269 (by decide) ?_
                    refine lv_istore (lv' := [(12, .int (nI (1 + (V2 / 32 % 20000)))), (11, .int (nI (V2 / 8 % 5001))), (10, .int (nI pl)), (9, .int (nI kd)), (4, .int (nI V2)), (0, .ref o0), (1, .ref p0), (2, .ref t0), (3, .int (nI C)), (5, .int (nI N9)), (6, .int (nI LN)), (7, .int 1), (8, .int (nI kk))]) hx hb dL_isTold_273 hl (by decide) rfl (fun ls hl => ?_)
                    exact jn275 (nI (V2 / 8 % 5001)) (nI (1 + (V2 / 32 % 20000))) 1 (V2 / 8 % 5001) (1 + V2 / 32 % 20000) (by exact (lxV_1 _).symm) (by exact Or.inl rfl) (by omega) (by exact Or.inr (Or.inl ⟨c230n, nI_le (a := 0) (Nat.zero_le _) (by omega), nI_le (b := 5000) (by omega) (by omega)⟩)) (by exact ⟨rfl, by omega⟩) (by exact Or.inl ⟨c230n, nI_le (a := 1) (by omega) (by omega), nI_le (b := 20000) (by omega) (by omega)⟩) _ _ hP hD hS ls (lv_sub hl [2, 3, 4, 5, 6, 7, 8, 9, 10, 11, 12, 1, 0] rfl)
              · have c209n : kd = 0 := ft_eqN (by omega) (by omega) c209
                refine lv_iload hx hb dL_isTold_212 (lv_at hl 2 rfl) ?_
                refine lv_iconst (v := 3) hx hb dL_isTold_214 (by decide) ?_
                refine lv_ishr hx hb dL_isTold_215 ?_
                refine ft_top (y := nI (V2 / 8)) (pk_shrN hV2 _ 3 (by decide)) ?_
                refine lv_sipush (v := 5501) hx hb dL_isTold_216 (by decide) ?_
                refine lv_irem hx hb dL_isTold_219 (by decide) ?_
                refine ft_top (y := ftRemI (nI (V2 / 8)) 5501) rfl ?_
                refine ft_top (y := nI (V2 / 8 % 5501)) (ft_remN (b := 5501) (by omega) (by omega) (by omega)) ?_
                refine lv_sipush (v := 500) hx hb dL_isTold_220 (by decide) ?_
                refine lv_isub hx hb dL_isTold_223 ?_
                refine lv_goto (tgt := 251) hx hb dL_isTold_224 (by decide) ?_
                refine lv_istore (lv' := [(11, .int ((nI (V2 / 8 % 5501)) - 500)), (10, .int (nI pl)), (9, .int (nI kd)), (4, .int (nI V2)), (0, .ref o0), (1, .ref p0), (2, .ref t0), (3, .int (nI C)), (5, .int (nI N9)), (6, .int (nI LN)), (7, .int 1), (8, .int (nI kk))]) hx hb dL_isTold_251 hl (by decide) rfl (fun ls hl => ?_)
                refine lv_iload hx hb dL_isTold_253 (lv_at hl 2 rfl) ?_
                refine lv_iconst (v := 1) hx hb dL_isTold_255 (by decide) ?_
                refine lv_icmp_ne (tgt := 272) hx hb dL_isTold_256 (by decide) (fun c256 => ?_) (fun c256 => ?_)
                · have c256n : kd ≠ 1 := ft_neN (by omega) (by omega) c256
                  refine lv_iconst (v := 0) hx hb dL_isTold_272 (by decide) ?_
                  refine lv_istore (lv' := [(12, .int 0), (11, .int ((nI (V2 / 8 % 5501)) - 500)), (10, .int (nI pl)), (9, .int (nI kd)), (4, .int (nI V2)), (0, .ref o0), (1, .ref p0), (2, .ref t0), (3, .int (nI C)), (5, .int (nI N9)), (6, .int (nI LN)), (7, .int 1), (8, .int (nI kk))]) hx hb dL_isTold_273 hl (by decide) rfl (fun ls hl => ?_)
                  obtain ⟨sl9, nl9, hl1, hl2, hl3, hl4, hl5⟩ := lx_loss (a := V2 / 8 % 5501) (by omega)
                  exact jn275 ((nI (V2 / 8 % 5501)) - 500) 0 sl9 nl9 0 (by exact hl1) (by exact hl2) (by exact hl3) (by exact Or.inl ⟨c209n, hl4, hl5⟩) (by exact ⟨rfl, by omega⟩) (by exact Or.inr ⟨by omega, rfl⟩) _ _ hP hD hS ls (lv_sub hl [2, 3, 4, 5, 6, 7, 8, 9, 10, 11, 12, 1, 0] rfl)
                · have c256n : kd = 1 := ft_eqN (by omega) (by omega) c256
                  exact absurd (c209.symm.trans c256) (by decide)
        exact lp156 _ 0 C co u129 to1 no1 K1 h1 m1 (ftLayW wp m1) tf (nI C) 0 tf (Nat.lt_succ_self _) (by omega) (by exact hC) (by omega) (by exact hG1) (by exact hOc) (by exact hQc) (by exact hfp) (by exact hcn1) (by intro t ht; exact ftLay_at (by omega) ht) (by intro j hj; exact (ftLay_hi (by omega)).trans (hFp j hj)) (by intro x; exact ⟨fun ⟨i, hi, _⟩ => absurd hi (Nat.not_lt_zero i), fun ⟨q, hq, _⟩ => absurd hq (by omega)⟩) (by exact hm0) (by rfl) (by rfl) (by rfl) _ _ hP hD hS ls (lv_sub hl [5, 6, 7, 8, 4, 3, 2, 1, 0] rfl)
  have hGo : lxG (upd t37 (0 + 6 + 1 + d37) 59) 1 (0 + 6 + 1 + d37 + 1) (0 ||| 2 ^ 0) (upd (ftMd0 (fun _ => 0)) 0 (nI LN)) := lx_base (p := 0) (j := 0) (lxG_0 _) (by omega) hn37 ha37 (lx_rt0 hLN) lx_al0
  have hGp9 : lxG (upd t62 (0 + 6 + 1 + d62) 59) 1 (0 + 6 + 1 + d62 + 1) (0 ||| 2 ^ 0) (upd (ftMd0 (fun _ => 0)) 0 (nI LN)) := lx_base (p := 0) (j := 0) (lxG_0 _) (by omega) hn62 ha62 (lx_rt0 hLN) lx_al0
  refine lv_iload_n hx hb dL_isTold_72 rfl (lv_at hl 6 rfl) ?_
  refine lv_iconst (v := 2) hx hb dL_isTold_73 (by decide) ?_
  refine lv_irem hx hb dL_isTold_74 (by decide) ?_
  refine ft_top (y := ftRemI (nI C) 2) rfl ?_
  refine ft_top (y := nI (C % 2)) (ft_remN (b := 2) (by omega) (by omega) (by omega)) ?_
  refine lv_if_ne (tgt := 128) hx hb dL_isTold_75 (by decide) (fun c75 => ?_) (fun c75 => ?_)
  · have c75n : (C % 2) ≠ 0 := ft_neN (by omega) (by omega) c75
    exact jn128 (upd t37 (0 + 6 + 1 + d37) 59) (0 + 6 + 1 + d37 + 1) (upd t62 (0 + 6 + 1 + d62) 59) (0 + 6 + 1 + d62 + 1) 1 (0 ||| 2 ^ 0) (upd (ftMd0 (fun _ => 0)) 0 (nI LN)) (by exact hGo) (by exact hGp9) (by omega) (by omega) (by exact ftUpd_at0) (by exact ftUpd_ne (by omega)) _ _ hP hD hS ls (lv_sub hl [0, 1, 2, 3, 4, 5, 6] rfl)
  · have c75n : (C % 2) = 0 := ft_eqN (by omega) (by omega) c75
    refine lv_aload_n hx hb dL_isTold_78 rfl (lv_at hl 3 rfl) ?_
    refine lv_ldc2 (v := 6647396) hx hb hown (hts (.constantLong RL 58 6647396) (by decide +kernel)) dL_isTold_79 ?_
    refine ft_callBv (X := (ftCB9 cI cS o0 Ao ((lxTxt co (upd t37 (0 + 6 + 1 + d37) 59) (0 + 6 + 1 + d37 + 1)).1.2.1 0) (lxTxt co (upd t37 (0 + 6 + 1 + d37) 59) (0 + 6 + 1 + d37 + 1)))) (Y := ([(t0, .inl (cI, 12, .inl tf))] ++ ftCB9 cI cS p0 Ap ((lxTxt cp (upd t62 (0 + 6 + 1 + d62) 59) (0 + 6 + 1 + d62 + 1)).1.2.1 0) (lxTxt cp (upd t62 (0 + 6 + 1 + d62) 59) (0 + 6 + 1 + d62 + 1)))) (X1 := fun (u82 : ftCdT) => (ftCB9 cI cS o0 Ao (u82.1.2.1 0) u82)) (ws1 := fun (u82 : ftCdT) => ([(t0, .inl (cI, 12, .inl tf))] ++ (ftCB9 cI cS o0 Ao (u82.1.2.1 0) u82 ++ ftCB9 cI cS p0 Ap ((lxTxt cp (upd t62 (0 + 6 + 1 + d62) 59) (0 + 6 + 1 + d62 + 1)).1.2.1 0) (lxTxt cp (upd t62 (0 + 6 + 1 + d62) 59) (0 + 6 + 1 + d62 + 1))))) (va_runS (As := [.ref o0, .long 6647396]) (rest := []) ⟨hx, hb, hml, hown, hts⟩ (c_L_word l D cI cS H.size sK sV o0 Ao (lxTxt co (upd t37 (0 + 6 + 1 + d37) 59) (0 + 6 + 1 + d37 + 1)) 6647396 3 (lxWf 2) lxWd_2 (show 0 + 6 + 1 + d37 + 1 + 3 ≤ 120 by omega)) (va_cwS 2 hts gL_isTold_L_word rfl rfl rfl (by decide +kernel) ⟨Nat.le_of_ble_eq_true rfl, Nat.le_of_ble_eq_true rfl⟩) (ft_preBS (List.perm_append_comm_assoc _ _ _) hP hD hKK hSt hS hA) rfl rfl hl.1 rfl (lv_room (Nat.le_of_ble_eq_true rfl)) dL_isTold_82 ⟨Nat.le_of_ble_eq_true rfl, Nat.le_of_ble_eq_true rfl⟩) hP hD hS hA (List.perm_append_comm_assoc _ _ _) (fun _ => (List.Perm.symm (List.perm_append_comm_assoc _ _ _))) (fun u82 h82 H locs hP hD hS => ?_)
    have hP : va_P D vwCl ([(t0, .inl (cI, 12, .inl tf))] ++ (ftCB9 cI cS o0 Ao (u82.1.2.1 0) u82 ++ ftCB9 cI cS p0 Ap ((lxTxt cp (upd t62 (0 + 6 + 1 + d62) 59) (0 + 6 + 1 + d62 + 1)).1.2.1 0) (lxTxt cp (upd t62 (0 + 6 + 1 + d62) 59) (0 + 6 + 1 + d62 + 1)))) H := hP
    have hD : va_D A ([(t0, .inl (cI, 12, .inl tf))] ++ (ftCB9 cI cS o0 Ao (u82.1.2.1 0) u82 ++ ftCB9 cI cS p0 Ap ((lxTxt cp (upd t62 (0 + 6 + 1 + d62) 59) (0 + 6 + 1 + d62 + 1)).1.2.1 0) (lxTxt cp (upd t62 (0 + 6 + 1 + d62) 59) (0 + 6 + 1 + d62 + 1)))) := hD
    have hu82 := h82
    subst hu82
    have hP : va_P D vwCl ([(t0, .inl (cI, 12, .inl tf))] ++ (ftCB9 cI cS o0 Ao ((lxTxt co (lxTy (lxWf 2) (upd t37 (0 + 6 + 1 + d37) 59) (0 + 6 + 1 + d37 + 1) 3) (0 + 6 + 1 + d37 + 1 + 3)).1.2.1 0) (lxTxt co (lxTy (lxWf 2) (upd t37 (0 + 6 + 1 + d37) 59) (0 + 6 + 1 + d37 + 1) 3) (0 + 6 + 1 + d37 + 1 + 3)) ++ ftCB9 cI cS p0 Ap ((lxTxt cp (upd t62 (0 + 6 + 1 + d62) 59) (0 + 6 + 1 + d62 + 1)).1.2.1 0) (lxTxt cp (upd t62 (0 + 6 + 1 + d62) 59) (0 + 6 + 1 + d62 + 1)))) H := hP
    have hD : va_D A ([(t0, .inl (cI, 12, .inl tf))] ++ (ftCB9 cI cS o0 Ao ((lxTxt co (lxTy (lxWf 2) (upd t37 (0 + 6 + 1 + d37) 59) (0 + 6 + 1 + d37 + 1) 3) (0 + 6 + 1 + d37 + 1 + 3)).1.2.1 0) (lxTxt co (lxTy (lxWf 2) (upd t37 (0 + 6 + 1 + d37) 59) (0 + 6 + 1 + d37 + 1) 3) (0 + 6 + 1 + d37 + 1 + 3)) ++ ftCB9 cI cS p0 Ap ((lxTxt cp (upd t62 (0 + 6 + 1 + d62) 59) (0 + 6 + 1 + d62 + 1)).1.2.1 0) (lxTxt cp (upd t62 (0 + 6 + 1 + d62) 59) (0 + 6 + 1 + d62 + 1)))) := hD
    refine lv_aload_n hx hb dL_isTold_85 rfl (lv_at hl 3 rfl) ?_
    refine lv_iload_n hx hb dL_isTold_86 rfl (lv_at hl 6 rfl) ?_
    refine lv_iconst (v := 5) hx hb dL_isTold_87 (by decide) ?_
    refine lv_ishr hx hb dL_isTold_88 ?_
    refine ft_top (y := nI (C / 32)) (pk_shrN hC _ 5 (by decide)) ?_
    refine lv_sipush (v := 20001) hx hb dL_isTold_89 (by decide) ?_
    refine lv_irem hx hb dL_isTold_92 (by decide) ?_
    refine ft_top (y := ftRemI (nI (C / 32)) 20001) rfl ?_
    refine ft_top (y := nI (C / 32 % 20001)) (ft_remN (b := 20001) (by omega) (by omega) (by omega)) ?_
    refine ft_callBv (X := (ftCB9 cI cS o0 Ao ((lxTxt co (lxTy (lxWf 2) (upd t37 (0 + 6 + 1 + d37) 59) (0 + 6 + 1 + d37 + 1) 3) (0 + 6 + 1 + d37 + 1 + 3)).1.2.1 0) (lxTxt co (lxTy (lxWf 2) (upd t37 (0 + 6 + 1 + d37) 59) (0 + 6 + 1 + d37 + 1) 3) (0 + 6 + 1 + d37 + 1 + 3)))) (Y := ([(t0, .inl (cI, 12, .inl tf))] ++ ftCB9 cI cS p0 Ap ((lxTxt cp (upd t62 (0 + 6 + 1 + d62) 59) (0 + 6 + 1 + d62 + 1)).1.2.1 0) (lxTxt cp (upd t62 (0 + 6 + 1 + d62) 59) (0 + 6 + 1 + d62 + 1)))) (X1 := fun (u93 : ftCdT) => (ftCB9 cI cS o0 Ao (u93.1.2.1 0) u93)) (ws1 := fun (u93 : ftCdT) => ([(t0, .inl (cI, 12, .inl tf))] ++ (ftCB9 cI cS o0 Ao (u93.1.2.1 0) u93 ++ ftCB9 cI cS p0 Ap ((lxTxt cp (upd t62 (0 + 6 + 1 + d62) 59) (0 + 6 + 1 + d62 + 1)).1.2.1 0) (lxTxt cp (upd t62 (0 + 6 + 1 + d62) 59) (0 + 6 + 1 + d62 + 1))))) (va_runS (As := [.ref o0, .int (nI (C / 32 % 20001))]) (rest := []) ⟨hx, hb, hml, hown, hts⟩ (c_L_numberP l D cI cS H.size sK sV o0 Ao (lxTxt co (lxTy (lxWf 2) (upd t37 (0 + 6 + 1 + d37) 59) (0 + 6 + 1 + d37 + 1) 3) (0 + 6 + 1 + d37 + 1 + 3)) (C / 32 % 20001) (by omega) (show 0 + 6 + 1 + d37 + 1 + 3 + 7 ≤ 120 by omega)) (va_cwS 2 hts gL_isTold_L_number rfl rfl rfl (by decide +kernel) ⟨Nat.le_of_ble_eq_true rfl, Nat.le_of_ble_eq_true rfl⟩) (ft_preBS (List.perm_append_comm_assoc _ _ _) hP hD hKK hSt hS hA) rfl rfl hl.1 rfl (lv_room (Nat.le_of_ble_eq_true rfl)) dL_isTold_93 ⟨Nat.le_of_ble_eq_true rfl, Nat.le_of_ble_eq_true rfl⟩) hP hD hS hA (List.perm_append_comm_assoc _ _ _) (fun _ => (List.Perm.symm (List.perm_append_comm_assoc _ _ _))) (fun u93 h93 H locs hP hD hS => ?_)
    have hP : va_P D vwCl ([(t0, .inl (cI, 12, .inl tf))] ++ (ftCB9 cI cS o0 Ao (u93.1.2.1 0) u93 ++ ftCB9 cI cS p0 Ap ((lxTxt cp (upd t62 (0 + 6 + 1 + d62) 59) (0 + 6 + 1 + d62 + 1)).1.2.1 0) (lxTxt cp (upd t62 (0 + 6 + 1 + d62) 59) (0 + 6 + 1 + d62 + 1)))) H := hP
    have hD : va_D A ([(t0, .inl (cI, 12, .inl tf))] ++ (ftCB9 cI cS o0 Ao (u93.1.2.1 0) u93 ++ ftCB9 cI cS p0 Ap ((lxTxt cp (upd t62 (0 + 6 + 1 + d62) 59) (0 + 6 + 1 + d62 + 1)).1.2.1 0) (lxTxt cp (upd t62 (0 + 6 + 1 + d62) 59) (0 + 6 + 1 + d62 + 1)))) := hD
    obtain ⟨d93, t93, hu93, hn93, ha93⟩ := h93
    subst hu93
    have hP : va_P D vwCl ([(t0, .inl (cI, 12, .inl tf))] ++ (ftCB9 cI cS o0 Ao ((lxTxt co t93 (0 + 6 + 1 + d37 + 1 + 3 + 1 + d93)).1.2.1 0) (lxTxt co t93 (0 + 6 + 1 + d37 + 1 + 3 + 1 + d93)) ++ ftCB9 cI cS p0 Ap ((lxTxt cp (upd t62 (0 + 6 + 1 + d62) 59) (0 + 6 + 1 + d62 + 1)).1.2.1 0) (lxTxt cp (upd t62 (0 + 6 + 1 + d62) 59) (0 + 6 + 1 + d62 + 1)))) H := hP
    have hD : va_D A ([(t0, .inl (cI, 12, .inl tf))] ++ (ftCB9 cI cS o0 Ao ((lxTxt co t93 (0 + 6 + 1 + d37 + 1 + 3 + 1 + d93)).1.2.1 0) (lxTxt co t93 (0 + 6 + 1 + d37 + 1 + 3 + 1 + d93)) ++ ftCB9 cI cS p0 Ap ((lxTxt cp (upd t62 (0 + 6 + 1 + d62) 59) (0 + 6 + 1 + d62 + 1)).1.2.1 0) (lxTxt cp (upd t62 (0 + 6 + 1 + d62) 59) (0 + 6 + 1 + d62 + 1)))) := hD
    have hn93 : lxN t93 (0 + 6 + 1 + d37 + 1 + 3) 1 d93 (C / 32 % 20001) := hn93
    have ha93 : ∀ t, t < 0 + 6 + 1 + d37 + 1 + 3 → t93 t = (lxTy (lxWf 2) (upd t37 (0 + 6 + 1 + d37) 59) (0 + 6 + 1 + d37 + 1) 3) t := ha93
    have hd93 : 1 ≤ d93 ∧ d93 ≤ 5 := ⟨hn93.2.2.1, hn93.2.2.2.1⟩
    refine lv_aload_n hx hb dL_isTold_96 rfl (lv_at hl 3 rfl) ?_
    refine lv_bipush (v := 59) hx hb dL_isTold_97 (by decide) ?_
    refine ft_callB (X := (ftCB9 cI cS o0 Ao ((lxTxt co t93 (0 + 6 + 1 + d37 + 1 + 3 + 1 + d93)).1.2.1 0) (lxTxt co t93 (0 + 6 + 1 + d37 + 1 + 3 + 1 + d93)))) (Y := ([(t0, .inl (cI, 12, .inl tf))] ++ ftCB9 cI cS p0 Ap ((lxTxt cp (upd t62 (0 + 6 + 1 + d62) 59) (0 + 6 + 1 + d62 + 1)).1.2.1 0) (lxTxt cp (upd t62 (0 + 6 + 1 + d62) 59) (0 + 6 + 1 + d62 + 1)))) (X1 := fun (u99 : ftCdT) => (ftCB9 cI cS o0 Ao (u99.1.2.1 0) u99)) (ws1 := fun (u99 : ftCdT) => ([(t0, .inl (cI, 12, .inl tf))] ++ (ftCB9 cI cS o0 Ao (u99.1.2.1 0) u99 ++ ftCB9 cI cS p0 Ap ((lxTxt cp (upd t62 (0 + 6 + 1 + d62) 59) (0 + 6 + 1 + d62 + 1)).1.2.1 0) (lxTxt cp (upd t62 (0 + 6 + 1 + d62) 59) (0 + 6 + 1 + d62 + 1))))) (va_runV (C := RX10) (As := [.int 59]) (rest := []) ⟨hx, hb, hml, hown, hts⟩ (et_type l D cI cS H.size sK sV o0 Ao (lxTxt co t93 (0 + 6 + 1 + d37 + 1 + 3 + 1 + d93)) 59 (by decide) (show 0 + 6 + 1 + d37 + 1 + 3 + 1 + d93 < 120 by omega)) (cwV 1 hts gL_isTold_X10_type rfl rfl rfl (by decide +kernel) ⟨Nat.le_of_ble_eq_true rfl, Nat.le_of_ble_eq_true rfl⟩) (ft_preB (ci := 10) (List.perm_append_comm_assoc _ _ _) hP hD hKK hSt hS hA rfl rfl) rfl rfl hl.1 rfl (lv_room (Nat.le_of_ble_eq_true rfl)) dL_isTold_99 ⟨Nat.le_of_ble_eq_true rfl, Nat.le_of_ble_eq_true rfl⟩) hP hD hS hA (List.perm_append_comm_assoc _ _ _) (fun _ => (List.Perm.symm (List.perm_append_comm_assoc _ _ _))) (fun r99 u99 h99 H locs hP hD hS => ?_)
    have hP : va_P D vwCl ([(t0, .inl (cI, 12, .inl tf))] ++ (ftCB9 cI cS o0 Ao (u99.1.2.1 0) u99 ++ ftCB9 cI cS p0 Ap ((lxTxt cp (upd t62 (0 + 6 + 1 + d62) 59) (0 + 6 + 1 + d62 + 1)).1.2.1 0) (lxTxt cp (upd t62 (0 + 6 + 1 + d62) 59) (0 + 6 + 1 + d62 + 1)))) H := hP
    have hD : va_D A ([(t0, .inl (cI, 12, .inl tf))] ++ (ftCB9 cI cS o0 Ao (u99.1.2.1 0) u99 ++ ftCB9 cI cS p0 Ap ((lxTxt cp (upd t62 (0 + 6 + 1 + d62) 59) (0 + 6 + 1 + d62 + 1)).1.2.1 0) (lxTxt cp (upd t62 (0 + 6 + 1 + d62) 59) (0 + 6 + 1 + d62 + 1)))) := hD
    obtain ⟨hr99, hu99⟩ := h99
    subst hu99
    have hP : va_P D vwCl ([(t0, .inl (cI, 12, .inl tf))] ++ (ftCB9 cI cS o0 Ao ((lxTxt co (upd t93 (0 + 6 + 1 + d37 + 1 + 3 + 1 + d93) 59) (0 + 6 + 1 + d37 + 1 + 3 + 1 + d93 + 1)).1.2.1 0) (lxTxt co (upd t93 (0 + 6 + 1 + d37 + 1 + 3 + 1 + d93) 59) (0 + 6 + 1 + d37 + 1 + 3 + 1 + d93 + 1)) ++ ftCB9 cI cS p0 Ap ((lxTxt cp (upd t62 (0 + 6 + 1 + d62) 59) (0 + 6 + 1 + d62 + 1)).1.2.1 0) (lxTxt cp (upd t62 (0 + 6 + 1 + d62) 59) (0 + 6 + 1 + d62 + 1)))) H := hP
    have hD : va_D A ([(t0, .inl (cI, 12, .inl tf))] ++ (ftCB9 cI cS o0 Ao ((lxTxt co (upd t93 (0 + 6 + 1 + d37 + 1 + 3 + 1 + d93) 59) (0 + 6 + 1 + d37 + 1 + 3 + 1 + d93 + 1)).1.2.1 0) (lxTxt co (upd t93 (0 + 6 + 1 + d37 + 1 + 3 + 1 + d93) 59) (0 + 6 + 1 + d37 + 1 + 3 + 1 + d93 + 1)) ++ ftCB9 cI cS p0 Ap ((lxTxt cp (upd t62 (0 + 6 + 1 + d62) 59) (0 + 6 + 1 + d62 + 1)).1.2.1 0) (lxTxt cp (upd t62 (0 + 6 + 1 + d62) 59) (0 + 6 + 1 + d62 + 1)))) := hD
    refine lv_pop hx hb dL_isTold_102 rfl ?_
    refine lv_aload_n hx hb dL_isTold_103 rfl (lv_at hl 4 rfl) ?_
    refine lv_ldc2 (v := 6647396) hx hb hown (hts (.constantLong RL 58 6647396) (by decide +kernel)) dL_isTold_104 ?_
    refine ft_callBv (X := (ftCB9 cI cS p0 Ap ((lxTxt cp (upd t62 (0 + 6 + 1 + d62) 59) (0 + 6 + 1 + d62 + 1)).1.2.1 0) (lxTxt cp (upd t62 (0 + 6 + 1 + d62) 59) (0 + 6 + 1 + d62 + 1)))) (Y := ([(t0, .inl (cI, 12, .inl tf))] ++ ftCB9 cI cS o0 Ao ((lxTxt co (upd t93 (0 + 6 + 1 + d37 + 1 + 3 + 1 + d93) 59) (0 + 6 + 1 + d37 + 1 + 3 + 1 + d93 + 1)).1.2.1 0) (lxTxt co (upd t93 (0 + 6 + 1 + d37 + 1 + 3 + 1 + d93) 59) (0 + 6 + 1 + d37 + 1 + 3 + 1 + d93 + 1)))) (X1 := fun (u107 : ftCdT) => (ftCB9 cI cS p0 Ap (u107.1.2.1 0) u107)) (ws1 := fun (u107 : ftCdT) => ([(t0, .inl (cI, 12, .inl tf))] ++ (ftCB9 cI cS o0 Ao ((lxTxt co (upd t93 (0 + 6 + 1 + d37 + 1 + 3 + 1 + d93) 59) (0 + 6 + 1 + d37 + 1 + 3 + 1 + d93 + 1)).1.2.1 0) (lxTxt co (upd t93 (0 + 6 + 1 + d37 + 1 + 3 + 1 + d93) 59) (0 + 6 + 1 + d37 + 1 + 3 + 1 + d93 + 1)) ++ ftCB9 cI cS p0 Ap (u107.1.2.1 0) u107))) (va_runS (As := [.ref p0, .long 6647396]) (rest := []) ⟨hx, hb, hml, hown, hts⟩ (c_L_word l D cI cS H.size sK sV p0 Ap (lxTxt cp (upd t62 (0 + 6 + 1 + d62) 59) (0 + 6 + 1 + d62 + 1)) 6647396 3 (lxWf 2) lxWd_2 (show 0 + 6 + 1 + d62 + 1 + 3 ≤ 120 by omega)) (va_cwS 2 hts gL_isTold_L_word rfl rfl rfl (by decide +kernel) ⟨Nat.le_of_ble_eq_true rfl, Nat.le_of_ble_eq_true rfl⟩) (ft_preBS (ft_pm3 _ _ _) hP hD hKK hSt hS hA) rfl rfl hl.1 rfl (lv_room (Nat.le_of_ble_eq_true rfl)) dL_isTold_107 ⟨Nat.le_of_ble_eq_true rfl, Nat.le_of_ble_eq_true rfl⟩) hP hD hS hA (ft_pm3 _ _ _) (fun _ => (List.Perm.symm (ft_pm3 _ _ _))) (fun u107 h107 H locs hP hD hS => ?_)
    have hP : va_P D vwCl ([(t0, .inl (cI, 12, .inl tf))] ++ (ftCB9 cI cS o0 Ao ((lxTxt co (upd t93 (0 + 6 + 1 + d37 + 1 + 3 + 1 + d93) 59) (0 + 6 + 1 + d37 + 1 + 3 + 1 + d93 + 1)).1.2.1 0) (lxTxt co (upd t93 (0 + 6 + 1 + d37 + 1 + 3 + 1 + d93) 59) (0 + 6 + 1 + d37 + 1 + 3 + 1 + d93 + 1)) ++ ftCB9 cI cS p0 Ap (u107.1.2.1 0) u107)) H := hP
    have hD : va_D A ([(t0, .inl (cI, 12, .inl tf))] ++ (ftCB9 cI cS o0 Ao ((lxTxt co (upd t93 (0 + 6 + 1 + d37 + 1 + 3 + 1 + d93) 59) (0 + 6 + 1 + d37 + 1 + 3 + 1 + d93 + 1)).1.2.1 0) (lxTxt co (upd t93 (0 + 6 + 1 + d37 + 1 + 3 + 1 + d93) 59) (0 + 6 + 1 + d37 + 1 + 3 + 1 + d93 + 1)) ++ ftCB9 cI cS p0 Ap (u107.1.2.1 0) u107)) := hD
    have hu107 := h107
    subst hu107
    have hP : va_P D vwCl ([(t0, .inl (cI, 12, .inl tf))] ++ (ftCB9 cI cS o0 Ao ((lxTxt co (upd t93 (0 + 6 + 1 + d37 + 1 + 3 + 1 + d93) 59) (0 + 6 + 1 + d37 + 1 + 3 + 1 + d93 + 1)).1.2.1 0) (lxTxt co (upd t93 (0 + 6 + 1 + d37 + 1 + 3 + 1 + d93) 59) (0 + 6 + 1 + d37 + 1 + 3 + 1 + d93 + 1)) ++ ftCB9 cI cS p0 Ap ((lxTxt cp (lxTy (lxWf 2) (upd t62 (0 + 6 + 1 + d62) 59) (0 + 6 + 1 + d62 + 1) 3) (0 + 6 + 1 + d62 + 1 + 3)).1.2.1 0) (lxTxt cp (lxTy (lxWf 2) (upd t62 (0 + 6 + 1 + d62) 59) (0 + 6 + 1 + d62 + 1) 3) (0 + 6 + 1 + d62 + 1 + 3)))) H := hP
    have hD : va_D A ([(t0, .inl (cI, 12, .inl tf))] ++ (ftCB9 cI cS o0 Ao ((lxTxt co (upd t93 (0 + 6 + 1 + d37 + 1 + 3 + 1 + d93) 59) (0 + 6 + 1 + d37 + 1 + 3 + 1 + d93 + 1)).1.2.1 0) (lxTxt co (upd t93 (0 + 6 + 1 + d37 + 1 + 3 + 1 + d93) 59) (0 + 6 + 1 + d37 + 1 + 3 + 1 + d93 + 1)) ++ ftCB9 cI cS p0 Ap ((lxTxt cp (lxTy (lxWf 2) (upd t62 (0 + 6 + 1 + d62) 59) (0 + 6 + 1 + d62 + 1) 3) (0 + 6 + 1 + d62 + 1 + 3)).1.2.1 0) (lxTxt cp (lxTy (lxWf 2) (upd t62 (0 + 6 + 1 + d62) 59) (0 + 6 + 1 + d62 + 1) 3) (0 + 6 + 1 + d62 + 1 + 3)))) := hD
    refine lv_aload_n hx hb dL_isTold_110 rfl (lv_at hl 4 rfl) ?_
    refine lv_iload_n hx hb dL_isTold_111 rfl (lv_at hl 6 rfl) ?_
    refine lv_iconst (v := 5) hx hb dL_isTold_112 (by decide) ?_
    refine lv_ishr hx hb dL_isTold_113 ?_
    refine ft_top (y := nI (C / 32)) (pk_shrN hC _ 5 (by decide)) ?_
    refine lv_sipush (v := 20001) hx hb dL_isTold_114 (by decide) ?_
    refine lv_irem hx hb dL_isTold_117 (by decide) ?_
    refine ft_top (y := ftRemI (nI (C / 32)) 20001) rfl ?_
    refine ft_top (y := nI (C / 32 % 20001)) (ft_remN (b := 20001) (by omega) (by omega) (by omega)) ?_
    refine ft_callBv (X := (ftCB9 cI cS p0 Ap ((lxTxt cp (lxTy (lxWf 2) (upd t62 (0 + 6 + 1 + d62) 59) (0 + 6 + 1 + d62 + 1) 3) (0 + 6 + 1 + d62 + 1 + 3)).1.2.1 0) (lxTxt cp (lxTy (lxWf 2) (upd t62 (0 + 6 + 1 + d62) 59) (0 + 6 + 1 + d62 + 1) 3) (0 + 6 + 1 + d62 + 1 + 3)))) (Y := ([(t0, .inl (cI, 12, .inl tf))] ++ ftCB9 cI cS o0 Ao ((lxTxt co (upd t93 (0 + 6 + 1 + d37 + 1 + 3 + 1 + d93) 59) (0 + 6 + 1 + d37 + 1 + 3 + 1 + d93 + 1)).1.2.1 0) (lxTxt co (upd t93 (0 + 6 + 1 + d37 + 1 + 3 + 1 + d93) 59) (0 + 6 + 1 + d37 + 1 + 3 + 1 + d93 + 1)))) (X1 := fun (u118 : ftCdT) => (ftCB9 cI cS p0 Ap (u118.1.2.1 0) u118)) (ws1 := fun (u118 : ftCdT) => ([(t0, .inl (cI, 12, .inl tf))] ++ (ftCB9 cI cS o0 Ao ((lxTxt co (upd t93 (0 + 6 + 1 + d37 + 1 + 3 + 1 + d93) 59) (0 + 6 + 1 + d37 + 1 + 3 + 1 + d93 + 1)).1.2.1 0) (lxTxt co (upd t93 (0 + 6 + 1 + d37 + 1 + 3 + 1 + d93) 59) (0 + 6 + 1 + d37 + 1 + 3 + 1 + d93 + 1)) ++ ftCB9 cI cS p0 Ap (u118.1.2.1 0) u118))) (va_runS (As := [.ref p0, .int (nI (C / 32 % 20001))]) (rest := []) ⟨hx, hb, hml, hown, hts⟩ (c_L_numberP l D cI cS H.size sK sV p0 Ap (lxTxt cp (lxTy (lxWf 2) (upd t62 (0 + 6 + 1 + d62) 59) (0 + 6 + 1 + d62 + 1) 3) (0 + 6 + 1 + d62 + 1 + 3)) (C / 32 % 20001) (by omega) (show 0 + 6 + 1 + d62 + 1 + 3 + 7 ≤ 120 by omega)) (va_cwS 2 hts gL_isTold_L_number rfl rfl rfl (by decide +kernel) ⟨Nat.le_of_ble_eq_true rfl, Nat.le_of_ble_eq_true rfl⟩) (ft_preBS (ft_pm3 _ _ _) hP hD hKK hSt hS hA) rfl rfl hl.1 rfl (lv_room (Nat.le_of_ble_eq_true rfl)) dL_isTold_118 ⟨Nat.le_of_ble_eq_true rfl, Nat.le_of_ble_eq_true rfl⟩) hP hD hS hA (ft_pm3 _ _ _) (fun _ => (List.Perm.symm (ft_pm3 _ _ _))) (fun u118 h118 H locs hP hD hS => ?_)
    have hP : va_P D vwCl ([(t0, .inl (cI, 12, .inl tf))] ++ (ftCB9 cI cS o0 Ao ((lxTxt co (upd t93 (0 + 6 + 1 + d37 + 1 + 3 + 1 + d93) 59) (0 + 6 + 1 + d37 + 1 + 3 + 1 + d93 + 1)).1.2.1 0) (lxTxt co (upd t93 (0 + 6 + 1 + d37 + 1 + 3 + 1 + d93) 59) (0 + 6 + 1 + d37 + 1 + 3 + 1 + d93 + 1)) ++ ftCB9 cI cS p0 Ap (u118.1.2.1 0) u118)) H := hP
    have hD : va_D A ([(t0, .inl (cI, 12, .inl tf))] ++ (ftCB9 cI cS o0 Ao ((lxTxt co (upd t93 (0 + 6 + 1 + d37 + 1 + 3 + 1 + d93) 59) (0 + 6 + 1 + d37 + 1 + 3 + 1 + d93 + 1)).1.2.1 0) (lxTxt co (upd t93 (0 + 6 + 1 + d37 + 1 + 3 + 1 + d93) 59) (0 + 6 + 1 + d37 + 1 + 3 + 1 + d93 + 1)) ++ ftCB9 cI cS p0 Ap (u118.1.2.1 0) u118)) := hD
    obtain ⟨d118, t118, hu118, hn118, ha118⟩ := h118
    subst hu118
    have hP : va_P D vwCl ([(t0, .inl (cI, 12, .inl tf))] ++ (ftCB9 cI cS o0 Ao ((lxTxt co (upd t93 (0 + 6 + 1 + d37 + 1 + 3 + 1 + d93) 59) (0 + 6 + 1 + d37 + 1 + 3 + 1 + d93 + 1)).1.2.1 0) (lxTxt co (upd t93 (0 + 6 + 1 + d37 + 1 + 3 + 1 + d93) 59) (0 + 6 + 1 + d37 + 1 + 3 + 1 + d93 + 1)) ++ ftCB9 cI cS p0 Ap ((lxTxt cp t118 (0 + 6 + 1 + d62 + 1 + 3 + 1 + d118)).1.2.1 0) (lxTxt cp t118 (0 + 6 + 1 + d62 + 1 + 3 + 1 + d118)))) H := hP
    have hD : va_D A ([(t0, .inl (cI, 12, .inl tf))] ++ (ftCB9 cI cS o0 Ao ((lxTxt co (upd t93 (0 + 6 + 1 + d37 + 1 + 3 + 1 + d93) 59) (0 + 6 + 1 + d37 + 1 + 3 + 1 + d93 + 1)).1.2.1 0) (lxTxt co (upd t93 (0 + 6 + 1 + d37 + 1 + 3 + 1 + d93) 59) (0 + 6 + 1 + d37 + 1 + 3 + 1 + d93 + 1)) ++ ftCB9 cI cS p0 Ap ((lxTxt cp t118 (0 + 6 + 1 + d62 + 1 + 3 + 1 + d118)).1.2.1 0) (lxTxt cp t118 (0 + 6 + 1 + d62 + 1 + 3 + 1 + d118)))) := hD
    have hn118 : lxN t118 (0 + 6 + 1 + d62 + 1 + 3) 1 d118 (C / 32 % 20001) := hn118
    have ha118 : ∀ t, t < 0 + 6 + 1 + d62 + 1 + 3 → t118 t = (lxTy (lxWf 2) (upd t62 (0 + 6 + 1 + d62) 59) (0 + 6 + 1 + d62 + 1) 3) t := ha118
    have hd118 : 1 ≤ d118 ∧ d118 ≤ 5 := ⟨hn118.2.2.1, hn118.2.2.2.1⟩
    refine lv_aload_n hx hb dL_isTold_121 rfl (lv_at hl 4 rfl) ?_
    refine lv_bipush (v := 59) hx hb dL_isTold_122 (by decide) ?_
    refine ft_callB (X := (ftCB9 cI cS p0 Ap ((lxTxt cp t118 (0 + 6 + 1 + d62 + 1 + 3 + 1 + d118)).1.2.1 0) (lxTxt cp t118 (0 + 6 + 1 + d62 + 1 + 3 + 1 + d118)))) (Y := ([(t0, .inl (cI, 12, .inl tf))] ++ ftCB9 cI cS o0 Ao ((lxTxt co (upd t93 (0 + 6 + 1 + d37 + 1 + 3 + 1 + d93) 59) (0 + 6 + 1 + d37 + 1 + 3 + 1 + d93 + 1)).1.2.1 0) (lxTxt co (upd t93 (0 + 6 + 1 + d37 + 1 + 3 + 1 + d93) 59) (0 + 6 + 1 + d37 + 1 + 3 + 1 + d93 + 1)))) (X1 := fun (u124 : ftCdT) => (ftCB9 cI cS p0 Ap (u124.1.2.1 0) u124)) (ws1 := fun (u124 : ftCdT) => ([(t0, .inl (cI, 12, .inl tf))] ++ (ftCB9 cI cS o0 Ao ((lxTxt co (upd t93 (0 + 6 + 1 + d37 + 1 + 3 + 1 + d93) 59) (0 + 6 + 1 + d37 + 1 + 3 + 1 + d93 + 1)).1.2.1 0) (lxTxt co (upd t93 (0 + 6 + 1 + d37 + 1 + 3 + 1 + d93) 59) (0 + 6 + 1 + d37 + 1 + 3 + 1 + d93 + 1)) ++ ftCB9 cI cS p0 Ap (u124.1.2.1 0) u124))) (va_runV (C := RX10) (As := [.int 59]) (rest := []) ⟨hx, hb, hml, hown, hts⟩ (et_type l D cI cS H.size sK sV p0 Ap (lxTxt cp t118 (0 + 6 + 1 + d62 + 1 + 3 + 1 + d118)) 59 (by decide) (show 0 + 6 + 1 + d62 + 1 + 3 + 1 + d118 < 120 by omega)) (cwV 1 hts gL_isTold_X10_type rfl rfl rfl (by decide +kernel) ⟨Nat.le_of_ble_eq_true rfl, Nat.le_of_ble_eq_true rfl⟩) (ft_preB (ci := 10) (ft_pm3 _ _ _) hP hD hKK hSt hS hA rfl rfl) rfl rfl hl.1 rfl (lv_room (Nat.le_of_ble_eq_true rfl)) dL_isTold_124 ⟨Nat.le_of_ble_eq_true rfl, Nat.le_of_ble_eq_true rfl⟩) hP hD hS hA (ft_pm3 _ _ _) (fun _ => (List.Perm.symm (ft_pm3 _ _ _))) (fun r124 u124 h124 H locs hP hD hS => ?_)
    have hP : va_P D vwCl ([(t0, .inl (cI, 12, .inl tf))] ++ (ftCB9 cI cS o0 Ao ((lxTxt co (upd t93 (0 + 6 + 1 + d37 + 1 + 3 + 1 + d93) 59) (0 + 6 + 1 + d37 + 1 + 3 + 1 + d93 + 1)).1.2.1 0) (lxTxt co (upd t93 (0 + 6 + 1 + d37 + 1 + 3 + 1 + d93) 59) (0 + 6 + 1 + d37 + 1 + 3 + 1 + d93 + 1)) ++ ftCB9 cI cS p0 Ap (u124.1.2.1 0) u124)) H := hP
    have hD : va_D A ([(t0, .inl (cI, 12, .inl tf))] ++ (ftCB9 cI cS o0 Ao ((lxTxt co (upd t93 (0 + 6 + 1 + d37 + 1 + 3 + 1 + d93) 59) (0 + 6 + 1 + d37 + 1 + 3 + 1 + d93 + 1)).1.2.1 0) (lxTxt co (upd t93 (0 + 6 + 1 + d37 + 1 + 3 + 1 + d93) 59) (0 + 6 + 1 + d37 + 1 + 3 + 1 + d93 + 1)) ++ ftCB9 cI cS p0 Ap (u124.1.2.1 0) u124)) := hD
    obtain ⟨hr124, hu124⟩ := h124
    subst hu124
    have hP : va_P D vwCl ([(t0, .inl (cI, 12, .inl tf))] ++ (ftCB9 cI cS o0 Ao ((lxTxt co (upd t93 (0 + 6 + 1 + d37 + 1 + 3 + 1 + d93) 59) (0 + 6 + 1 + d37 + 1 + 3 + 1 + d93 + 1)).1.2.1 0) (lxTxt co (upd t93 (0 + 6 + 1 + d37 + 1 + 3 + 1 + d93) 59) (0 + 6 + 1 + d37 + 1 + 3 + 1 + d93 + 1)) ++ ftCB9 cI cS p0 Ap ((lxTxt cp (upd t118 (0 + 6 + 1 + d62 + 1 + 3 + 1 + d118) 59) (0 + 6 + 1 + d62 + 1 + 3 + 1 + d118 + 1)).1.2.1 0) (lxTxt cp (upd t118 (0 + 6 + 1 + d62 + 1 + 3 + 1 + d118) 59) (0 + 6 + 1 + d62 + 1 + 3 + 1 + d118 + 1)))) H := hP
    have hD : va_D A ([(t0, .inl (cI, 12, .inl tf))] ++ (ftCB9 cI cS o0 Ao ((lxTxt co (upd t93 (0 + 6 + 1 + d37 + 1 + 3 + 1 + d93) 59) (0 + 6 + 1 + d37 + 1 + 3 + 1 + d93 + 1)).1.2.1 0) (lxTxt co (upd t93 (0 + 6 + 1 + d37 + 1 + 3 + 1 + d93) 59) (0 + 6 + 1 + d37 + 1 + 3 + 1 + d93 + 1)) ++ ftCB9 cI cS p0 Ap ((lxTxt cp (upd t118 (0 + 6 + 1 + d62 + 1 + 3 + 1 + d118) 59) (0 + 6 + 1 + d62 + 1 + 3 + 1 + d118 + 1)).1.2.1 0) (lxTxt cp (upd t118 (0 + 6 + 1 + d62 + 1 + 3 + 1 + d118) 59) (0 + 6 + 1 + d62 + 1 + 3 + 1 + d118 + 1)))) := hD
    have hGo2 : lxG (upd t93 (0 + 6 + 1 + d37 + 1 + 3 + 1 + d93) 59) 2 (0 + 6 + 1 + d37 + 1 + 3 + 1 + d93 + 1) (0 ||| 2 ^ 0 ||| 2 ^ 2) (upd (upd (ftMd0 (fun _ => 0)) 0 (nI LN)) 2 (nI (C / 32 % 20001))) := lx_base (j := 2) hGo (by omega) hn93 ha93 (lx_rt2 (by omega)) lx_al2
    have hGp2 : lxG (upd t118 (0 + 6 + 1 + d62 + 1 + 3 + 1 + d118) 59) 2 (0 + 6 + 1 + d62 + 1 + 3 + 1 + d118 + 1) (0 ||| 2 ^ 0 ||| 2 ^ 2) (upd (upd (ftMd0 (fun _ => 0)) 0 (nI LN)) 2 (nI (C / 32 % 20001))) := lx_base (j := 2) hGp9 (by omega) hn118 ha118 (lx_rt2 (by omega)) lx_al2
    refine lv_pop hx hb dL_isTold_127 rfl ?_
    exact jn128 (upd t93 (0 + 6 + 1 + d37 + 1 + 3 + 1 + d93) 59) (0 + 6 + 1 + d37 + 1 + 3 + 1 + d93 + 1) (upd t118 (0 + 6 + 1 + d62 + 1 + 3 + 1 + d118) 59) (0 + 6 + 1 + d62 + 1 + 3 + 1 + d118 + 1) 2 (0 ||| 2 ^ 0 ||| 2 ^ 2) (upd (upd (ftMd0 (fun _ => 0)) 0 (nI LN)) 2 (nI (C / 32 % 20001))) (by exact hGo2) (by exact hGp2) (by omega) (by omega) (by exact (ftUpd_ne (by omega)).trans ftUpd_at0) (by exact (ftUpd_ne (by omega)).trans (ftUpd_ne (by omega))) _ _ hP hD hS ls (lv_sub hl [0, 1, 2, 3, 4, 5, 6] rfl)
