set_option maxHeartbeats 4000000 in
set_option maxRecDepth 100000 in
theorem c_L_isAltered (l : Launch) (D : va_G) (cI cS : ClassId) (sz : Nat) (sK sV : Nat → Nat) (o0 p0 : Nat) (Ao Ap : Nat → Nat → Nat) (co cp : ftCdT) (k : Nat) (w z : Nat → Int32) (hm : Nat) (to : Nat → Int32) (no : Nat) (tp : Nat → Int32) (np : Nat) (C : Nat) (hk : k < 900) (hO : lxO k co w z hm to no) (hQ : lxQ cp w tp np) (hC : C < 2 ^ 31) (hN : ftCN w < 9) : Met l yL_isAltered wsL_isAltered ({ frames := 8, cells := 0, slots := 0, locals := 197 }) (ftRWS D cI cS sK sV [.ref o0, .ref p0, .int (nI C)] (ftCB9 cI cS o0 Ao (co.1.2.1 0) co ++ ftCB9 cI cS p0 Ap (cp.1.2.1 0) cp) sz) (ftXi D (ftCB9 cI cS o0 Ao (co.1.2.1 0) co ++ ftCB9 cI cS p0 Ap (cp.1.2.1 0) cp) sz (fun (o9 : Int32) (u : ftCdT × ftCdT) => o9 = 1 ∧ (∃ z9 h9, lxO k u.1 w z9 h9 to no) ∧ (lxQ u.2 w tp np)) (fun (u : ftCdT × ftCdT) => (ftCB9 cI cS o0 Ao (u.1.1.2.1 0) u.1 ++ ftCB9 cI cS p0 Ap (u.2.1.2.1 0) u.2))) 0 0 (va_A (ftCB9 cI cS o0 Ao (co.1.2.1 0) co ++ ftCB9 cI cS p0 Ap (cp.1.2.1 0) cp) sz) := by
  refine Met.ofW (cc := cL_isAltered) (maxL := 8) (ret := (some .boolean)) (by decide) rfl ?_
  intro p e s m args below meth c s₁ B hml hv
  obtain ⟨rfl, hsz, hP, hKK, hD0, hSt⟩ := hv
  have hK := hKK.1
  have hx := B.exec
  have hb := B.bytes
  have hr := B.returns
  have hts := atoms_spec (ws := wsL_isAltered) B.pre
  have hown : s.vm.findClass RL = some m.cls := findClass_of_methodNamed B.named
  have hlocks := B.notSynchronized
  subst hsz
  have hD := hD0.self (sz := s.heap.size)
  generalize hAe : va_A (ftCB9 cI cS o0 Ao (co.1.2.1 0) co ++ ftCB9 cI cS p0 Ap (cp.1.2.1 0) cp) s.heap.size = A at hD hSt ⊢
  have hA : ∀ q : Nat, s.heap.size ≤ q → A q := fun q h => by rw [← hAe]; exact Or.inr h
  have hS : va_S A s.heap s.heap [] := va_S.rf
  have hD : va_D A (ftCB9 cI cS o0 Ao (co.1.2.1 0) co ++ ftCB9 cI cS p0 Ap (cp.1.2.1 0) cp) := hD
  have hP : va_P D vwCl (ftCB9 cI cS o0 Ao (co.1.2.1 0) co ++ ftCB9 cI cS p0 Ap (cp.1.2.1 0) cp) s.heap := hP
  have hl := lv_entry ([.ref o0, .ref p0, .int (nI C)]) (n := 8) (Nat.le_of_ble_eq_true rfl)
  rw [lg_entry_eq]
  generalize (lg_sl ([.ref o0, .ref p0, .int (nI C)]) ++ List.replicate (8 - (lg_sl ([.ref o0, .ref p0, .int (nI C)])).length) Slot.unset).toArray = ls at hl ⊢
  have hl : lv_has ls 8 [(0, .ref o0), (1, .ref p0), (2, .int (nI C))] := hl
  have hWf := lxO_W hO
  have hh5 := lxO_5 hO
  have hln := ftWf_ln hWf
  have hlg := ftWf_lg hWf
  refine lv_aload_n hx hb dL_isAltered_0 rfl (lv_at hl 0 rfl) ?_
  refine lv_bipush (v := 11) hx hb dL_isAltered_1 (by decide) ?_
  refine ft_callB (X := (ftCB9 cI cS o0 Ao (co.1.2.1 0) co)) (Y := (ftCB9 cI cS p0 Ap (cp.1.2.1 0) cp)) (X1 := fun (u3 : ftCdT) => (ftCB9 cI cS o0 Ao (u3.1.2.1 0) u3)) (ws1 := fun (u3 : ftCdT) => (ftCB9 cI cS o0 Ao (u3.1.2.1 0) u3 ++ ftCB9 cI cS p0 Ap (cp.1.2.1 0) cp)) (va_runV (C := RX10) (As := [.int 11]) (rest := []) ⟨hx, hb, hml, hown, hts⟩ (eo_count l D cI cS s.heap.size sK sV o0 Ao co k w z hm to no 11 (by omega) hO) (cwV 1 hts gL_isAltered_X10_count rfl rfl rfl (by decide +kernel) ⟨Nat.le_of_ble_eq_true rfl, Nat.le_of_ble_eq_true rfl⟩) (ft_preB (ci := 10) (List.Perm.refl _) hP hD hKK hSt hS hA rfl rfl) rfl rfl hl.1 rfl (lv_room (Nat.le_of_ble_eq_true rfl)) dL_isAltered_3 ⟨Nat.le_of_ble_eq_true rfl, Nat.le_of_ble_eq_true rfl⟩) hP hD hS hA (List.Perm.refl _) (fun _ => (List.Perm.symm (List.Perm.refl _))) (fun r3 u3 h3 H locs hP hD hS => ?_)
  have hP : va_P D vwCl (ftCB9 cI cS o0 Ao (u3.1.2.1 0) u3 ++ ftCB9 cI cS p0 Ap (cp.1.2.1 0) cp) H := hP
  have hD : va_D A (ftCB9 cI cS o0 Ao (u3.1.2.1 0) u3 ++ ftCB9 cI cS p0 Ap (cp.1.2.1 0) cp) := hD
  obtain ⟨hr3, hO⟩ := h3
  subst hr3
  refine ft_top (y := nI (ftCL w)) (lxCnt_11 hWf) ?_
  refine lv_istore_n (lv' := [(3, .int (nI (ftCL w))), (0, .ref o0), (1, .ref p0), (2, .int (nI C))]) hx hb dL_isAltered_6 rfl hl (by decide) rfl (fun ls hl => ?_)
  refine lv_aload_n hx hb dL_isAltered_7 rfl (lv_at hl 1 rfl) ?_
  refine lv_iload_n hx hb dL_isAltered_8 rfl (lv_at hl 0 rfl) ?_
  refine ft_callB (X := (ftCB9 cI cS o0 Ao (u3.1.2.1 0) u3)) (Y := (ftCB9 cI cS p0 Ap (cp.1.2.1 0) cp)) (X1 := fun (u9 : ftCdT) => (ftCB9 cI cS o0 Ao (u9.1.2.1 0) u9)) (ws1 := fun (u9 : ftCdT) => (ftCB9 cI cS o0 Ao (u9.1.2.1 0) u9 ++ ftCB9 cI cS p0 Ap (cp.1.2.1 0) cp)) (va_runV (C := RX10) (As := [.int (nI (ftCL w))]) (rest := []) ⟨hx, hb, hml, hown, hts⟩ (eo_lineLoss l D cI cS H.size sK sV o0 Ao u3 k w z hm to no (nI (ftCL w)) (by omega) hO) (cwV 1 hts gL_isAltered_X10_lineLoss rfl rfl rfl (by decide +kernel) ⟨Nat.le_of_ble_eq_true rfl, Nat.le_of_ble_eq_true rfl⟩) (ft_preB (ci := 10) (List.Perm.refl _) hP hD hKK hSt hS hA rfl rfl) rfl rfl hl.1 rfl (lv_room (Nat.le_of_ble_eq_true rfl)) dL_isAltered_9 ⟨Nat.le_of_ble_eq_true rfl, Nat.le_of_ble_eq_true rfl⟩) hP hD hS hA (List.Perm.refl _) (fun _ => (List.Perm.symm (List.Perm.refl _))) (fun r9 u9 h9 H locs hP hD hS => ?_)
  have hP : va_P D vwCl (ftCB9 cI cS o0 Ao (u9.1.2.1 0) u9 ++ ftCB9 cI cS p0 Ap (cp.1.2.1 0) cp) H := hP
  have hD : va_D A (ftCB9 cI cS o0 Ao (u9.1.2.1 0) u9 ++ ftCB9 cI cS p0 Ap (cp.1.2.1 0) cp) := hD
  obtain ⟨hr9, hO⟩ := h9
  subst hr9
  refine lv_istore (lv' := [(4, .int (ftLlA w (nI (ftCL w)))), (3, .int (nI (ftCL w))), (0, .ref o0), (1, .ref p0), (2, .int (nI C))]) hx hb dL_isAltered_12 hl (by decide) rfl (fun ls hl => ?_)
  refine lv_iconst (v := 1) hx hb dL_isAltered_14 (by decide) ?_
  refine lv_iload_n hx hb dL_isAltered_15 rfl (lv_at hl 4 rfl) ?_
  refine lv_iload_n hx hb dL_isAltered_16 rfl (lv_at hl 1 rfl) ?_
  refine lv_iconst (v := 1) hx hb dL_isAltered_17 (by decide) ?_
  refine lv_isub hx hb dL_isAltered_18 ?_
  refine ft_top (y := nI ((ftCL w) - 1)) (ft_subN (a := ftCL w) (b := 1) (by omega)) ?_
  refine lv_irem hx hb dL_isAltered_19 (nI_ne0 (by omega) (by omega)) ?_
  refine ft_top (y := ftRemI (nI C) (nI ((ftCL w) - 1))) rfl ?_
  refine ft_top (y := nI (C % (ftCL w - 1))) (ft_remN (by omega) (by omega) (by omega)) ?_
  refine lv_iadd hx hb dL_isAltered_20 ?_
  refine ft_top (y := nI (1 + (C % (ftCL w - 1)))) (ft_addN 1 (C % (ftCL w - 1))) ?_
  refine lv_istore (lv' := [(5, .int (nI (1 + (C % (ftCL w - 1))))), (4, .int (ftLlA w (nI (ftCL w)))), (3, .int (nI (ftCL w))), (0, .ref o0), (1, .ref p0), (2, .int (nI C))]) hx hb dL_isAltered_21 hl (by decide) rfl (fun ls hl => ?_)
  obtain ⟨pl, hpl⟩ : ∃ pl, pl = 1 + C % (ftCL w - 1) := ⟨_, rfl⟩
  rw [← hpl] at hl
  have hpl1 : 1 ≤ pl ∧ pl ≤ ftCL w - 1 := by
    have := Nat.mod_lt C (show 0 < ftCL w - 1 by omega)
    omega
  have hfit := lx_fit0 hWf (pl := pl) (d := C / 128 % 900) hpl1.1 hpl1.2 (by omega)
  refine lv_aload_n hx hb dL_isAltered_23 rfl (lv_at hl 3 rfl) ?_
  refine lv_iconst (v := 0) hx hb dL_isAltered_24 (by decide) ?_
  refine lv_iload hx hb dL_isAltered_25 (lv_at hl 0 rfl) ?_
  refine lv_iload_n hx hb dL_isAltered_27 rfl (lv_at hl 5 rfl) ?_
  refine lv_bipush (v := 7) hx hb dL_isAltered_28 (by decide) ?_
  refine lv_ishr hx hb dL_isAltered_30 ?_
  refine ft_top (y := nI (C / 128)) (pk_shrN hC _ 7 (by decide)) ?_
  refine lv_sipush (v := 900) hx hb dL_isAltered_31 (by decide) ?_
  refine lv_irem hx hb dL_isAltered_34 (by decide) ?_
  refine ft_top (y := ftRemI (nI (C / 128)) 900) rfl ?_
  refine ft_top (y := nI (C / 128 % 900)) (ft_remN (b := 900) (by omega) (by omega) (by omega)) ?_
  refine lv_iconst (v := 0) hx hb dL_isAltered_35 (by decide) ?_
  rcases Classical.em (lxPl w (nI pl)) with htk | htk
  · refine ft_callB (X := (ftCB9 cI cS o0 Ao (u9.1.2.1 0) u9)) (Y := (ftCB9 cI cS p0 Ap (cp.1.2.1 0) cp)) (X1 := fun (u36 : ftCdT) => (ftCB9 cI cS o0 Ao (u36.1.2.1 0) u36)) (ws1 := fun (u36 : ftCdT) => (ftCB9 cI cS o0 Ao (u36.1.2.1 0) u36 ++ ftCB9 cI cS p0 Ap (cp.1.2.1 0) cp)) (va_runV (C := RX10) (As := [.int 0, .int (nI pl), .int (nI (C / 128 % 900)), .int 0]) (rest := []) ⟨hx, hb, hml, hown, hts⟩ (eo_addPartN l D cI cS H.size sK sV o0 Ao u9 k w z hm to no 0 (nI pl) (nI (C / 128 % 900)) 0 (by omega) hO (lx_adn (lxEq_rf _) (by omega) hfit htk).1) (cwV 4 hts gL_isAltered_X10_addPart rfl rfl rfl (by decide +kernel) ⟨Nat.le_of_ble_eq_true rfl, Nat.le_of_ble_eq_true rfl⟩) (ft_preB (ci := 10) (List.Perm.refl _) hP hD hKK hSt hS hA rfl rfl) rfl rfl hl.1 rfl (lv_room (Nat.le_of_ble_eq_true rfl)) dL_isAltered_36 ⟨Nat.le_of_ble_eq_true rfl, Nat.le_of_ble_eq_true rfl⟩) hP hD hS hA (List.Perm.refl _) (fun _ => (List.Perm.symm (List.Perm.refl _))) (fun r36 u36 h36 H locs hP hD hS => ?_)
    have hP : va_P D vwCl (ftCB9 cI cS o0 Ao (u36.1.2.1 0) u36 ++ ftCB9 cI cS p0 Ap (cp.1.2.1 0) cp) H := hP
    have hD : va_D A (ftCB9 cI cS o0 Ao (u36.1.2.1 0) u36 ++ ftCB9 cI cS p0 Ap (cp.1.2.1 0) cp) := hD
    obtain ⟨hr36, hO⟩ := h36
    subst hr36
    refine ft_top (y := (-1000002)) (lx_adn (lxEq_rf _) (by omega) hfit htk).2 ?_
    refine lv_istore (lv' := [(6, .int (-1000002)), (5, .int (nI pl)), (4, .int (ftLlA w (nI (ftCL w)))), (3, .int (nI (ftCL w))), (0, .ref o0), (1, .ref p0), (2, .int (nI C))]) hx hb dL_isAltered_39 hl (by decide) rfl (fun ls hl => ?_)
    refine lv_iconst (v := 1) hx hb dL_isAltered_41 (by decide) ?_
    refine lv_istore (lv' := [(7, .int 1), (6, .int (-1000002)), (5, .int (nI pl)), (4, .int (ftLlA w (nI (ftCL w)))), (3, .int (nI (ftCL w))), (0, .ref o0), (1, .ref p0), (2, .int (nI C))]) hx hb dL_isAltered_42 hl (by decide) rfl (fun ls hl => ?_)
    refine lv_iload hx hb dL_isAltered_44 (lv_at hl 1 rfl) ?_
    refine lv_if_lt (tgt := 172) hx hb dL_isAltered_46 (by decide) (fun c46 => ?_) (fun c46 => ?_)
    · refine lv_iload hx hb dL_isAltered_172 (lv_at hl 1 rfl) ?_
      refine lv_ldc (v := (-1000002)) hx hb hown (hts (.constant RL 66 (-1000002)) (by decide +kernel)) dL_isAltered_174 ?_
      refine lv_icmp_eq (tgt := 186) hx hb dL_isAltered_176 (by decide) (fun c176 => ?_) (fun c176 => ?_)
      · refine lv_iconst (v := 1) hx hb dL_isAltered_186 (by decide) ?_
        refine lv_goto (tgt := 191) hx hb dL_isAltered_187 (by decide) ?_
        refine lv_istore (lv' := [(7, .int 1), (6, .int (-1000002)), (5, .int (nI pl)), (4, .int (ftLlA w (nI (ftCL w)))), (3, .int (nI (ftCL w))), (0, .ref o0), (1, .ref p0), (2, .int (nI C))]) hx hb dL_isAltered_191 hl (by decide) rfl (fun ls hl => ?_)
        refine lv_iload hx hb dL_isAltered_193 (lv_at hl 0 rfl) ?_
        refine lv_if_eq (tgt := 235) hx hb dL_isAltered_195 (by decide) (fun c195 => ?_) (fun c195 => ?_)
        · exact absurd c195 (by decide)
        · refine lv_aload_n hx hb dL_isAltered_198 rfl (lv_at hl 5 rfl) ?_
          refine lv_iload_n hx hb dL_isAltered_199 rfl (lv_at hl 4 rfl) ?_
          refine ft_callB (X := (ftCB9 cI cS o0 Ao (u36.1.2.1 0) u36)) (Y := (ftCB9 cI cS p0 Ap (cp.1.2.1 0) cp)) (X1 := fun (u200 : ftCdT) => (ftCB9 cI cS o0 Ao (u200.1.2.1 0) u200)) (ws1 := fun (u200 : ftCdT) => (ftCB9 cI cS o0 Ao (u200.1.2.1 0) u200 ++ ftCB9 cI cS p0 Ap (cp.1.2.1 0) cp)) (va_runV (C := RX10) (As := [.int (nI (ftCL w))]) (rest := []) ⟨hx, hb, hml, hown, hts⟩ (eo_lineLoss l D cI cS H.size sK sV o0 Ao u36 k w z hm to no (nI (ftCL w)) (by omega) hO) (cwV 1 hts gL_isAltered_X10_lineLoss rfl rfl rfl (by decide +kernel) ⟨Nat.le_of_ble_eq_true rfl, Nat.le_of_ble_eq_true rfl⟩) (ft_preB (ci := 10) (List.Perm.refl _) hP hD hKK hSt hS hA rfl rfl) rfl rfl hl.1 rfl (lv_room (Nat.le_of_ble_eq_true rfl)) dL_isAltered_200 ⟨Nat.le_of_ble_eq_true rfl, Nat.le_of_ble_eq_true rfl⟩) hP hD hS hA (List.Perm.refl _) (fun _ => (List.Perm.symm (List.Perm.refl _))) (fun r200 u200 h200 H locs hP hD hS => ?_)
          have hP : va_P D vwCl (ftCB9 cI cS o0 Ao (u200.1.2.1 0) u200 ++ ftCB9 cI cS p0 Ap (cp.1.2.1 0) cp) H := hP
          have hD : va_D A (ftCB9 cI cS o0 Ao (u200.1.2.1 0) u200 ++ ftCB9 cI cS p0 Ap (cp.1.2.1 0) cp) := hD
          obtain ⟨hr200, hO⟩ := h200
          subst hr200
          refine lv_iload hx hb dL_isAltered_203 (lv_at hl 3 rfl) ?_
          refine lv_icmp_ne (tgt := 235) hx hb dL_isAltered_205 (by decide) (fun c205 => ?_) (fun c205 => ?_)
          · exact absurd rfl c205
          · refine lv_aload_n hx hb dL_isAltered_208 rfl (lv_at hl 5 rfl) ?_
            refine lv_aload_n hx hb dL_isAltered_209 rfl (lv_at hl 6 rfl) ?_
            refine ft_callB (X := (ftCB9 cI cS o0 Ao (u200.1.2.1 0) u200 ++ ftCB9 cI cS p0 Ap (cp.1.2.1 0) cp)) (Y := []) (X1 := fun (u210 : ftCdT × ftCdT) => (ftCB9 cI cS o0 Ao (u210.1.1.2.1 0) u210.1 ++ ftCB9 cI cS p0 Ap (u210.2.1.2.1 0) u210.2)) (ws1 := fun (u210 : ftCdT × ftCdT) => (ftCB9 cI cS o0 Ao (u210.1.1.2.1 0) u210.1 ++ ftCB9 cI cS p0 Ap (u210.2.1.2.1 0) u210.2)) (va_runS (As := [.ref o0, .ref p0]) (rest := []) ⟨hx, hb, hml, hown, hts⟩ (c_L_areAlike l D cI cS H.size sK sV o0 p0 Ao Ap u200 cp k w z hm to no tp np (by omega) hO hQ) (va_cwS 2 hts gL_isAltered_L_areAlike rfl rfl rfl (by decide +kernel) ⟨Nat.le_of_ble_eq_true rfl, Nat.le_of_ble_eq_true rfl⟩) (ft_preBS (ft_pmE _) hP hD hKK hSt hS hA) rfl rfl hl.1 rfl (lv_room (Nat.le_of_ble_eq_true rfl)) dL_isAltered_210 ⟨Nat.le_of_ble_eq_true rfl, Nat.le_of_ble_eq_true rfl⟩) hP hD hS hA (ft_pmE _) (fun _ => (ft_pmE _).symm) (fun r210 u210 h210 H locs hP hD hS => ?_)
            have hP : va_P D vwCl (ftCB9 cI cS o0 Ao (u210.1.1.2.1 0) u210.1 ++ ftCB9 cI cS p0 Ap (u210.2.1.2.1 0) u210.2) H := hP
            have hD : va_D A (ftCB9 cI cS o0 Ao (u210.1.1.2.1 0) u210.1 ++ ftCB9 cI cS p0 Ap (u210.2.1.2.1 0) u210.2) := hD
            obtain ⟨hr210, hO, hQ⟩ := h210
            subst hr210
            refine lv_if_eq (tgt := 235) hx hb dL_isAltered_213 (by decide) (fun c213 => ?_) (fun c213 => ?_)
            · exact absurd c213 (by decide)
            · refine lv_aload_n hx hb dL_isAltered_216 rfl (lv_at hl 5 rfl) ?_
              refine lv_aload_n hx hb dL_isAltered_217 rfl (lv_at hl 5 rfl) ?_
              refine lv_bipush (v := 14) hx hb dL_isAltered_218 (by decide) ?_
              refine ft_callB (X := (ftCB9 cI cS o0 Ao (u210.1.1.2.1 0) u210.1)) (Y := (ftCB9 cI cS p0 Ap (u210.2.1.2.1 0) u210.2)) (X1 := fun (u220 : ftCdT) => (ftCB9 cI cS o0 Ao (u220.1.2.1 0) u220)) (ws1 := fun (u220 : ftCdT) => (ftCB9 cI cS o0 Ao (u220.1.2.1 0) u220 ++ ftCB9 cI cS p0 Ap (u210.2.1.2.1 0) u210.2)) (va_runV (C := RX10) (As := [.int 14]) (rest := [.ref o0]) ⟨hx, hb, hml, hown, hts⟩ (eo_count l D cI cS H.size sK sV o0 Ao u210.1 k w z hm to no 14 (by omega) hO) (cwV 1 hts gL_isAltered_X10_count rfl rfl rfl (by decide +kernel) ⟨Nat.le_of_ble_eq_true rfl, Nat.le_of_ble_eq_true rfl⟩) (ft_preB (ci := 10) (List.Perm.refl _) hP hD hKK hSt hS hA rfl rfl) rfl rfl hl.1 rfl (lv_room (Nat.le_of_ble_eq_true rfl)) dL_isAltered_220 ⟨Nat.le_of_ble_eq_true rfl, Nat.le_of_ble_eq_true rfl⟩) hP hD hS hA (List.Perm.refl _) (fun _ => (List.Perm.symm (List.Perm.refl _))) (fun r220 u220 h220 H locs hP hD hS => ?_)
              have hP : va_P D vwCl (ftCB9 cI cS o0 Ao (u220.1.2.1 0) u220 ++ ftCB9 cI cS p0 Ap (u210.2.1.2.1 0) u210.2) H := hP
              have hD : va_D A (ftCB9 cI cS o0 Ao (u220.1.2.1 0) u220 ++ ftCB9 cI cS p0 Ap (u210.2.1.2.1 0) u210.2) := hD
              obtain ⟨hr220, hO⟩ := h220
              subst hr220
              refine ft_top (y := nI (ftCN w)) (lxCnt_14 hWf) ?_
              refine ft_callB (X := (ftCB9 cI cS o0 Ao (u220.1.2.1 0) u220)) (Y := (ftCB9 cI cS p0 Ap (u210.2.1.2.1 0) u210.2)) (X1 := fun (u223 : ftCdT) => (ftCB9 cI cS o0 Ao (u223.1.2.1 0) u223)) (ws1 := fun (u223 : ftCdT) => (ftCB9 cI cS o0 Ao (u223.1.2.1 0) u223 ++ ftCB9 cI cS p0 Ap (u210.2.1.2.1 0) u210.2)) (va_runV (C := RX10) (As := [.int (nI (ftCN w))]) (rest := []) ⟨hx, hb, hml, hown, hts⟩ (eo_removePartN l D cI cS H.size sK sV o0 Ao u220 k w z hm to no (nI (ftCN w)) (by omega) hO (lx_rmn hWf)) (cwV 1 hts gL_isAltered_X10_removePart rfl rfl rfl (by decide +kernel) ⟨Nat.le_of_ble_eq_true rfl, Nat.le_of_ble_eq_true rfl⟩) (ft_preB (ci := 10) (List.Perm.refl _) hP hD hKK hSt hS hA rfl rfl) rfl rfl hl.1 rfl (lv_room (Nat.le_of_ble_eq_true rfl)) dL_isAltered_223 ⟨Nat.le_of_ble_eq_true rfl, Nat.le_of_ble_eq_true rfl⟩) hP hD hS hA (List.Perm.refl _) (fun _ => (List.Perm.symm (List.Perm.refl _))) (fun r223 u223 h223 H locs hP hD hS => ?_)
              have hP : va_P D vwCl (ftCB9 cI cS o0 Ao (u223.1.2.1 0) u223 ++ ftCB9 cI cS p0 Ap (u210.2.1.2.1 0) u210.2) H := hP
              have hD : va_D A (ftCB9 cI cS o0 Ao (u223.1.2.1 0) u223 ++ ftCB9 cI cS p0 Ap (u210.2.1.2.1 0) u210.2) := hD
              obtain ⟨hr223, hO⟩ := h223
              subst hr223
              refine lv_ldc (v := (-1000001)) hx hb hown (hts (.constant RL 82 (-1000001)) (by decide +kernel)) dL_isAltered_226 ?_
              refine lv_icmp_ne (tgt := 235) hx hb dL_isAltered_228 (by decide) (fun c228 => ?_) (fun c228 => ?_)
              · exact absurd (by decide) c228
              · refine lv_iconst (v := 1) hx hb dL_isAltered_231 (by decide) ?_
                refine lv_goto (tgt := 236) hx hb dL_isAltered_232 (by decide) ?_
                obtain ⟨u9, hu9⟩ : ∃ u9 : ftCdT × ftCdT, u9 = (u223, u210.2) := ⟨_, rfl⟩
                have hw9 : ((ftCB9 cI cS o0 Ao (u223.1.2.1 0) u223 ++ ftCB9 cI cS p0 Ap (u210.2.1.2.1 0) u210.2) : va_W) = (ftCB9 cI cS o0 Ao (u9.1.1.2.1 0) u9.1 ++ ftCB9 cI cS p0 Ap (u9.2.1.2.1 0) u9.2) := by subst hu9; rfl
                rw [hw9] at hP hD
                have hf9_0 : ∃ z9 h9, lxO k u9.1 w z9 h9 to no := by rw [hu9]; exact ⟨_, _, hO⟩
                have hf9_1 : lxQ u9.2 w tp np := by rw [hu9]; exact hQ
                have hr9 : (1 : Int32) = 1 := by exact rfl
                exact W.zret (v := 1) hx hb hr (by rfl) (fun t ht hW => ⟨⟨1, u9, rfl, ⟨hr9, ⟨hf9_0, hf9_1⟩⟩, by rw [ht]; exact hP, by rw [hAe]; exact hD⟩, by rw [hAe]; exact hS.F ht⟩) hS.2.2 dL_isAltered_236
      · exact absurd (by decide) c176
    · exact absurd (by decide) c46
  · refine ft_callB (X := (ftCB9 cI cS o0 Ao (u9.1.2.1 0) u9)) (Y := (ftCB9 cI cS p0 Ap (cp.1.2.1 0) cp)) (X1 := fun (u36 : ftCdT) => (ftCB9 cI cS o0 Ao (u36.1.2.1 0) u36)) (ws1 := fun (u36 : ftCdT) => (ftCB9 cI cS o0 Ao (u36.1.2.1 0) u36 ++ ftCB9 cI cS p0 Ap (cp.1.2.1 0) cp)) (va_runV (C := RX10) (As := [.int 0, .int (nI pl), .int (nI (C / 128 % 900)), .int 0]) (rest := []) ⟨hx, hb, hml, hown, hts⟩ (eo_addPart l D cI cS H.size sK sV o0 Ao u9 k w z hm to no 0 (nI pl) (nI (C / 128 % 900)) 0 (by omega) hO (lx_adc (lxEq_rf _) (by omega) hfit htk (ftWf_3 hWf))) (cwV 4 hts gL_isAltered_X10_addPart rfl rfl rfl (by decide +kernel) ⟨Nat.le_of_ble_eq_true rfl, Nat.le_of_ble_eq_true rfl⟩) (ft_preB (ci := 10) (List.Perm.refl _) hP hD hKK hSt hS hA rfl rfl) rfl rfl hl.1 rfl (lv_room (Nat.le_of_ble_eq_true rfl)) dL_isAltered_36 ⟨Nat.le_of_ble_eq_true rfl, Nat.le_of_ble_eq_true rfl⟩) hP hD hS hA (List.Perm.refl _) (fun _ => (List.Perm.symm (List.Perm.refl _))) (fun r36 u36 h36 H locs hP hD hS => ?_)
    have hP : va_P D vwCl (ftCB9 cI cS o0 Ao (u36.1.2.1 0) u36 ++ ftCB9 cI cS p0 Ap (cp.1.2.1 0) cp) H := hP
    have hD : va_D A (ftCB9 cI cS o0 Ao (u36.1.2.1 0) u36 ++ ftCB9 cI cS p0 Ap (cp.1.2.1 0) cp) := hD
    obtain ⟨hr36, hO⟩ := h36
    subst hr36
    refine lv_istore (lv' := [(6, .int (nI (ftPosW w (nI pl) (ftCN w)))), (5, .int (nI pl)), (4, .int (ftLlA w (nI (ftCL w)))), (3, .int (nI (ftCL w))), (0, .ref o0), (1, .ref p0), (2, .int (nI C))]) hx hb dL_isAltered_39 hl (by decide) rfl (fun ls hl => ?_)
    refine lv_iconst (v := 1) hx hb dL_isAltered_41 (by decide) ?_
    refine lv_istore (lv' := [(7, .int 1), (6, .int (nI (ftPosW w (nI pl) (ftCN w)))), (5, .int (nI pl)), (4, .int (ftLlA w (nI (ftCL w)))), (3, .int (nI (ftCL w))), (0, .ref o0), (1, .ref p0), (2, .int (nI C))]) hx hb dL_isAltered_42 hl (by decide) rfl (fun ls hl => ?_)
    refine lv_iload hx hb dL_isAltered_44 (lv_at hl 1 rfl) ?_
    refine lv_if_lt (tgt := 172) hx hb dL_isAltered_46 (by decide) (fun c46 => ?_) (fun c46 => ?_)
    · exact absurd c46 (nI_pos (by have := ftPosW_le w (nI pl) (ftCN w); omega))
    · have hq9 := ftPosW_le w (nI pl) (ftCN w)
      have hyL : 0 ≤ nI (ftCL w) ∧ nI (ftCL w) ≤ w 0 := ⟨nI_le (a := 0) (Nat.zero_le _) (by omega), by rw [ftWf_0 hWf]; exact Int32.le_refl _⟩
      have hltL : nI pl < nI (ftCL w) := (nI_ltI (by omega) (by omega)).mpr (by omega)
      have hyP : 0 ≤ nI pl ∧ nI pl ≤ w 0 := ⟨nI_le (a := 0) (Nat.zero_le _) (by omega), by rw [ftWf_0 hWf]; exact nI_le (by omega) (by omega)⟩
      have hN1 : ftCN (ftAdd w (ftCN w) 0 (nI pl) (nI (C / 128 % 900)) 0) < 10 := by rw [ftAdd_cn (by omega)]; omega
      have htk1 : lxPl (ftAdd w (ftCN w) 0 (nI pl) (nI (C / 128 % 900)) 0) (nI pl) := (lxPl_add (by omega)).mpr (Or.inl rfl)
      have hfit2 : lxFit (ftAdd w (ftCN w) 0 (nI pl) (nI (C / 128 % 900)) 0) 2 (nI pl) 5 0 := lx_fit2 hpl1.1 (by rw [ftAdd_l (by omega)]; exact hfit.1.2.1.2) (by omega)
      refine lv_aload_n hx hb dL_isAltered_49 rfl (lv_at hl 5 rfl) ?_
      refine lv_iload hx hb dL_isAltered_50 (lv_at hl 1 rfl) ?_
      refine lv_iconst (v := 1) hx hb dL_isAltered_52 (by decide) ?_
      refine ft_callB (X := (ftCB9 cI cS o0 Ao (u36.1.2.1 0) u36)) (Y := (ftCB9 cI cS p0 Ap (cp.1.2.1 0) cp)) (X1 := fun (u53 : ftCdT) => (ftCB9 cI cS o0 Ao (u53.1.2.1 0) u53)) (ws1 := fun (u53 : ftCdT) => (ftCB9 cI cS o0 Ao (u53.1.2.1 0) u53 ++ ftCB9 cI cS p0 Ap (cp.1.2.1 0) cp)) (va_runV (C := RX10) (As := [.int (nI (ftPosW w (nI pl) (ftCN w))), .int 1]) (rest := []) ⟨hx, hb, hml, hown, hts⟩ (eo_part l D cI cS H.size sK sV o0 Ao u36 k (ftAdd w (ftCN w) 0 (nI pl) (nI (C / 128 % 900)) 0) (ftPush w z hm) (min (hm + 1) 5) to no (nI (ftPosW w (nI pl) (ftCN w))) 1 (by omega) hO) (cwV 2 hts gL_isAltered_X10_part rfl rfl rfl (by decide +kernel) ⟨Nat.le_of_ble_eq_true rfl, Nat.le_of_ble_eq_true rfl⟩) (ft_preB (ci := 10) (List.Perm.refl _) hP hD hKK hSt hS hA rfl rfl) rfl rfl hl.1 rfl (lv_room (Nat.le_of_ble_eq_true rfl)) dL_isAltered_53 ⟨Nat.le_of_ble_eq_true rfl, Nat.le_of_ble_eq_true rfl⟩) hP hD hS hA (List.Perm.refl _) (fun _ => (List.Perm.symm (List.Perm.refl _))) (fun r53 u53 h53 H locs hP hD hS => ?_)
      have hP : va_P D vwCl (ftCB9 cI cS o0 Ao (u53.1.2.1 0) u53 ++ ftCB9 cI cS p0 Ap (cp.1.2.1 0) cp) H := hP
      have hD : va_D A (ftCB9 cI cS o0 Ao (u53.1.2.1 0) u53 ++ ftCB9 cI cS p0 Ap (cp.1.2.1 0) cp) := hD
      obtain ⟨hr53, hO⟩ := h53
      subst hr53
      refine ft_top (y := nI pl) (lxPt_1 (lxO_W hO) (by omega)).1 ?_
      refine lv_iload hx hb dL_isAltered_56 (lv_at hl 2 rfl) ?_
      refine lv_icmp_ne (tgt := 123) hx hb dL_isAltered_58 (by decide) (fun c58 => ?_) (fun c58 => ?_)
      · have c58n : pl ≠ pl := ft_neN (by omega) (by omega) c58
        exact absurd rfl c58
      · have c58n : pl = pl := ft_eqN (by omega) (by omega) c58
        refine lv_aload_n hx hb dL_isAltered_61 rfl (lv_at hl 5 rfl) ?_
        refine lv_iload hx hb dL_isAltered_62 (lv_at hl 1 rfl) ?_
        refine lv_iconst (v := 0) hx hb dL_isAltered_64 (by decide) ?_
        refine ft_callB (X := (ftCB9 cI cS o0 Ao (u53.1.2.1 0) u53)) (Y := (ftCB9 cI cS p0 Ap (cp.1.2.1 0) cp)) (X1 := fun (u65 : ftCdT) => (ftCB9 cI cS o0 Ao (u65.1.2.1 0) u65)) (ws1 := fun (u65 : ftCdT) => (ftCB9 cI cS o0 Ao (u65.1.2.1 0) u65 ++ ftCB9 cI cS p0 Ap (cp.1.2.1 0) cp)) (va_runV (C := RX10) (As := [.int (nI (ftPosW w (nI pl) (ftCN w))), .int 0]) (rest := []) ⟨hx, hb, hml, hown, hts⟩ (eo_part l D cI cS H.size sK sV o0 Ao u53 k (ftAdd w (ftCN w) 0 (nI pl) (nI (C / 128 % 900)) 0) (ftPush w z hm) (min (hm + 1) 5) to no (nI (ftPosW w (nI pl) (ftCN w))) 0 (by omega) hO) (cwV 2 hts gL_isAltered_X10_part rfl rfl rfl (by decide +kernel) ⟨Nat.le_of_ble_eq_true rfl, Nat.le_of_ble_eq_true rfl⟩) (ft_preB (ci := 10) (List.Perm.refl _) hP hD hKK hSt hS hA rfl rfl) rfl rfl hl.1 rfl (lv_room (Nat.le_of_ble_eq_true rfl)) dL_isAltered_65 ⟨Nat.le_of_ble_eq_true rfl, Nat.le_of_ble_eq_true rfl⟩) hP hD hS hA (List.Perm.refl _) (fun _ => (List.Perm.symm (List.Perm.refl _))) (fun r65 u65 h65 H locs hP hD hS => ?_)
        have hP : va_P D vwCl (ftCB9 cI cS o0 Ao (u65.1.2.1 0) u65 ++ ftCB9 cI cS p0 Ap (cp.1.2.1 0) cp) H := hP
        have hD : va_D A (ftCB9 cI cS o0 Ao (u65.1.2.1 0) u65 ++ ftCB9 cI cS p0 Ap (cp.1.2.1 0) cp) := hD
        obtain ⟨hr65, hO⟩ := h65
        subst hr65
        refine ft_top (y := 0) (lxPt_1 (lxO_W hO) (by omega)).2 ?_
        refine lv_if_ne (tgt := 123) hx hb dL_isAltered_68 (by decide) (fun c68 => ?_) (fun c68 => ?_)
        · exact absurd rfl c68
        · refine lv_aload_n hx hb dL_isAltered_71 rfl (lv_at hl 5 rfl) ?_
          refine lv_iload_n hx hb dL_isAltered_72 rfl (lv_at hl 4 rfl) ?_
          refine ft_callB (X := (ftCB9 cI cS o0 Ao (u65.1.2.1 0) u65)) (Y := (ftCB9 cI cS p0 Ap (cp.1.2.1 0) cp)) (X1 := fun (u73 : ftCdT) => (ftCB9 cI cS o0 Ao (u73.1.2.1 0) u73)) (ws1 := fun (u73 : ftCdT) => (ftCB9 cI cS o0 Ao (u73.1.2.1 0) u73 ++ ftCB9 cI cS p0 Ap (cp.1.2.1 0) cp)) (va_runV (C := RX10) (As := [.int (nI (ftCL w))]) (rest := []) ⟨hx, hb, hml, hown, hts⟩ (eo_lineLoss l D cI cS H.size sK sV o0 Ao u65 k (ftAdd w (ftCN w) 0 (nI pl) (nI (C / 128 % 900)) 0) (ftPush w z hm) (min (hm + 1) 5) to no (nI (ftCL w)) (by omega) hO) (cwV 1 hts gL_isAltered_X10_lineLoss rfl rfl rfl (by decide +kernel) ⟨Nat.le_of_ble_eq_true rfl, Nat.le_of_ble_eq_true rfl⟩) (ft_preB (ci := 10) (List.Perm.refl _) hP hD hKK hSt hS hA rfl rfl) rfl rfl hl.1 rfl (lv_room (Nat.le_of_ble_eq_true rfl)) dL_isAltered_73 ⟨Nat.le_of_ble_eq_true rfl, Nat.le_of_ble_eq_true rfl⟩) hP hD hS hA (List.Perm.refl _) (fun _ => (List.Perm.symm (List.Perm.refl _))) (fun r73 u73 h73 H locs hP hD hS => ?_)
          have hP : va_P D vwCl (ftCB9 cI cS o0 Ao (u73.1.2.1 0) u73 ++ ftCB9 cI cS p0 Ap (cp.1.2.1 0) cp) H := hP
          have hD : va_D A (ftCB9 cI cS o0 Ao (u73.1.2.1 0) u73 ++ ftCB9 cI cS p0 Ap (cp.1.2.1 0) cp) := hD
          obtain ⟨hr73, hO⟩ := h73
          subst hr73
          refine ft_top (y := (ftLlA w (nI (ftCL w))) + (nI (C / 128 % 900))) ((lxAd_ll (ftWf_3 hWf) (by omega) _ hyL).trans (by rw [if_pos hltL])) ?_
          refine lv_iload hx hb dL_isAltered_76 (lv_at hl 3 rfl) ?_
          refine lv_iload_n hx hb dL_isAltered_78 rfl (lv_at hl 7 rfl) ?_
          refine lv_bipush (v := 7) hx hb dL_isAltered_79 (by decide) ?_
          refine lv_ishr hx hb dL_isAltered_81 ?_
          refine ft_top (y := nI (C / 128)) (pk_shrN hC _ 7 (by decide)) ?_
          refine lv_sipush (v := 900) hx hb dL_isAltered_82 (by decide) ?_
          refine lv_irem hx hb dL_isAltered_85 (by decide) ?_
          refine ft_top (y := ftRemI (nI (C / 128)) 900) rfl ?_
          refine ft_top (y := nI (C / 128 % 900)) (ft_remN (b := 900) (by omega) (by omega) (by omega)) ?_
          refine lv_iadd hx hb dL_isAltered_86 ?_
          refine lv_icmp_ne (tgt := 123) hx hb dL_isAltered_87 (by decide) (fun c87 => ?_) (fun c87 => ?_)
          · exact absurd rfl c87
          · refine lv_aload_n hx hb dL_isAltered_90 rfl (lv_at hl 5 rfl) ?_
            refine lv_iload hx hb dL_isAltered_91 (lv_at hl 2 rfl) ?_
            refine ft_callB (X := (ftCB9 cI cS o0 Ao (u73.1.2.1 0) u73)) (Y := (ftCB9 cI cS p0 Ap (cp.1.2.1 0) cp)) (X1 := fun (u93 : ftCdT) => (ftCB9 cI cS o0 Ao (u93.1.2.1 0) u93)) (ws1 := fun (u93 : ftCdT) => (ftCB9 cI cS o0 Ao (u93.1.2.1 0) u93 ++ ftCB9 cI cS p0 Ap (cp.1.2.1 0) cp)) (va_runV (C := RX10) (As := [.int (nI pl)]) (rest := []) ⟨hx, hb, hml, hown, hts⟩ (eo_lineLoss l D cI cS H.size sK sV o0 Ao u73 k (ftAdd w (ftCN w) 0 (nI pl) (nI (C / 128 % 900)) 0) (ftPush w z hm) (min (hm + 1) 5) to no (nI pl) (by omega) hO) (cwV 1 hts gL_isAltered_X10_lineLoss rfl rfl rfl (by decide +kernel) ⟨Nat.le_of_ble_eq_true rfl, Nat.le_of_ble_eq_true rfl⟩) (ft_preB (ci := 10) (List.Perm.refl _) hP hD hKK hSt hS hA rfl rfl) rfl rfl hl.1 rfl (lv_room (Nat.le_of_ble_eq_true rfl)) dL_isAltered_93 ⟨Nat.le_of_ble_eq_true rfl, Nat.le_of_ble_eq_true rfl⟩) hP hD hS hA (List.Perm.refl _) (fun _ => (List.Perm.symm (List.Perm.refl _))) (fun r93 u93 h93 H locs hP hD hS => ?_)
            have hP : va_P D vwCl (ftCB9 cI cS o0 Ao (u93.1.2.1 0) u93 ++ ftCB9 cI cS p0 Ap (cp.1.2.1 0) cp) H := hP
            have hD : va_D A (ftCB9 cI cS o0 Ao (u93.1.2.1 0) u93 ++ ftCB9 cI cS p0 Ap (cp.1.2.1 0) cp) := hD
            obtain ⟨hr93, hO⟩ := h93
            subst hr93
            refine ft_top (y := ftLlA w (nI pl)) ((lxAd_ll (ftWf_3 hWf) (by omega) _ hyP).trans (by rw [if_neg Int32.lt_irrefl, Int32.add_zero])) ?_
            refine lv_aload_n hx hb dL_isAltered_96 rfl (lv_at hl 6 rfl) ?_
            refine lv_iload hx hb dL_isAltered_97 (lv_at hl 2 rfl) ?_
            refine ft_callB (X := (ftCB9 cI cS p0 Ap (cp.1.2.1 0) cp)) (Y := (ftCB9 cI cS o0 Ao (u93.1.2.1 0) u93)) (X1 := fun (u99 : ftCdT) => (ftCB9 cI cS p0 Ap (u99.1.2.1 0) u99)) (ws1 := fun (u99 : ftCdT) => (ftCB9 cI cS o0 Ao (u93.1.2.1 0) u93 ++ ftCB9 cI cS p0 Ap (u99.1.2.1 0) u99)) (va_runV (C := RX10) (As := [.int (nI pl)]) (rest := [.int (ftLlA w (nI pl))]) ⟨hx, hb, hml, hown, hts⟩ (ep_lineLoss l D cI cS H.size sK sV p0 Ap cp w tp np (nI pl) hQ) (cwV 1 hts gL_isAltered_X10_lineLoss rfl rfl rfl (by decide +kernel) ⟨Nat.le_of_ble_eq_true rfl, Nat.le_of_ble_eq_true rfl⟩) (ft_preB (ci := 10) List.perm_append_comm hP hD hKK hSt hS hA rfl rfl) rfl rfl hl.1 rfl (lv_room (Nat.le_of_ble_eq_true rfl)) dL_isAltered_99 ⟨Nat.le_of_ble_eq_true rfl, Nat.le_of_ble_eq_true rfl⟩) hP hD hS hA List.perm_append_comm (fun _ => (List.Perm.symm List.perm_append_comm)) (fun r99 u99 h99 H locs hP hD hS => ?_)
            have hP : va_P D vwCl (ftCB9 cI cS o0 Ao (u93.1.2.1 0) u93 ++ ftCB9 cI cS p0 Ap (u99.1.2.1 0) u99) H := hP
            have hD : va_D A (ftCB9 cI cS o0 Ao (u93.1.2.1 0) u93 ++ ftCB9 cI cS p0 Ap (u99.1.2.1 0) u99) := hD
            obtain ⟨hr99, hQ⟩ := h99
            subst hr99
            refine lv_icmp_ne (tgt := 123) hx hb dL_isAltered_102 (by decide) (fun c102 => ?_) (fun c102 => ?_)
            · exact absurd rfl c102
            · refine lv_aload_n hx hb dL_isAltered_105 rfl (lv_at hl 5 rfl) ?_
              refine lv_iconst (v := 2) hx hb dL_isAltered_106 (by decide) ?_
              refine lv_iload hx hb dL_isAltered_107 (lv_at hl 2 rfl) ?_
              refine lv_iconst (v := 5) hx hb dL_isAltered_109 (by decide) ?_
              refine lv_iconst (v := 0) hx hb dL_isAltered_110 (by decide) ?_
              refine ft_callB (X := (ftCB9 cI cS o0 Ao (u93.1.2.1 0) u93)) (Y := (ftCB9 cI cS p0 Ap (u99.1.2.1 0) u99)) (X1 := fun (u111 : ftCdT) => (ftCB9 cI cS o0 Ao (u111.1.2.1 0) u111)) (ws1 := fun (u111 : ftCdT) => (ftCB9 cI cS o0 Ao (u111.1.2.1 0) u111 ++ ftCB9 cI cS p0 Ap (u99.1.2.1 0) u99)) (va_runV (C := RX10) (As := [.int 2, .int (nI pl), .int 5, .int 0]) (rest := []) ⟨hx, hb, hml, hown, hts⟩ (eo_addPartN l D cI cS H.size sK sV o0 Ao u93 k (ftAdd w (ftCN w) 0 (nI pl) (nI (C / 128 % 900)) 0) (ftPush w z hm) (min (hm + 1) 5) to no 2 (nI pl) 5 0 (by omega) hO (lx_adn (lxEq_rf _) hN1 hfit2 htk1).1) (cwV 4 hts gL_isAltered_X10_addPart rfl rfl rfl (by decide +kernel) ⟨Nat.le_of_ble_eq_true rfl, Nat.le_of_ble_eq_true rfl⟩) (ft_preB (ci := 10) (List.Perm.refl _) hP hD hKK hSt hS hA rfl rfl) rfl rfl hl.1 rfl (lv_room (Nat.le_of_ble_eq_true rfl)) dL_isAltered_111 ⟨Nat.le_of_ble_eq_true rfl, Nat.le_of_ble_eq_true rfl⟩) hP hD hS hA (List.Perm.refl _) (fun _ => (List.Perm.symm (List.Perm.refl _))) (fun r111 u111 h111 H locs hP hD hS => ?_)
              have hP : va_P D vwCl (ftCB9 cI cS o0 Ao (u111.1.2.1 0) u111 ++ ftCB9 cI cS p0 Ap (u99.1.2.1 0) u99) H := hP
              have hD : va_D A (ftCB9 cI cS o0 Ao (u111.1.2.1 0) u111 ++ ftCB9 cI cS p0 Ap (u99.1.2.1 0) u99) := hD
              obtain ⟨hr111, hO⟩ := h111
              subst hr111
              refine ft_top (y := (-1000002)) (lx_adn (lxEq_rf _) hN1 hfit2 htk1).2 ?_
              refine lv_ldc (v := (-1000002)) hx hb hown (hts (.constant RL 66 (-1000002)) (by decide +kernel)) dL_isAltered_114 ?_
              refine lv_icmp_ne (tgt := 123) hx hb dL_isAltered_116 (by decide) (fun c116 => ?_) (fun c116 => ?_)
              · exact absurd (by decide) c116
              · refine lv_iconst (v := 1) hx hb dL_isAltered_119 (by decide) ?_
                refine lv_goto (tgt := 124) hx hb dL_isAltered_120 (by decide) ?_
                refine lv_istore (lv' := [(7, .int 1), (6, .int (nI (ftPosW w (nI pl) (ftCN w)))), (5, .int (nI pl)), (4, .int (ftLlA w (nI (ftCL w)))), (3, .int (nI (ftCL w))), (0, .ref o0), (1, .ref p0), (2, .int (nI C))]) hx hb dL_isAltered_124 hl (by decide) rfl (fun ls hl => ?_)
                refine lv_iload hx hb dL_isAltered_126 (lv_at hl 0 rfl) ?_
                refine lv_if_eq (tgt := 166) hx hb dL_isAltered_128 (by decide) (fun c128 => ?_) (fun c128 => ?_)
                · exact absurd c128 (by decide)
                · refine lv_iload_n hx hb dL_isAltered_131 rfl (lv_at hl 7 rfl) ?_
                  refine lv_iconst (v := 2) hx hb dL_isAltered_132 (by decide) ?_
                  refine lv_irem hx hb dL_isAltered_133 (by decide) ?_
                  refine ft_top (y := ftRemI (nI C) 2) rfl ?_
                  refine ft_top (y := nI (C % 2)) (ft_remN (b := 2) (by omega) (by omega) (by omega)) ?_
                  refine lv_if_ne (tgt := 147) hx hb dL_isAltered_134 (by decide) (fun c134 => ?_) (fun c134 => ?_)
                  · have c134n : (C % 2) ≠ 0 := ft_neN (by omega) (by omega) c134
                    refine lv_aload_n hx hb dL_isAltered_147 rfl (lv_at hl 5 rfl) ?_
                    refine lv_iload hx hb dL_isAltered_148 (lv_at hl 1 rfl) ?_
                    refine ft_callB (X := (ftCB9 cI cS o0 Ao (u111.1.2.1 0) u111)) (Y := (ftCB9 cI cS p0 Ap (u99.1.2.1 0) u99)) (X1 := fun (u150 : ftCdT) => (ftCB9 cI cS o0 Ao (u150.1.2.1 0) u150)) (ws1 := fun (u150 : ftCdT) => (ftCB9 cI cS o0 Ao (u150.1.2.1 0) u150 ++ ftCB9 cI cS p0 Ap (u99.1.2.1 0) u99)) (va_runV (C := RX10) (As := [.int (nI (ftPosW w (nI pl) (ftCN w)))]) (rest := []) ⟨hx, hb, hml, hown, hts⟩ (eo_removePart l D cI cS H.size sK sV o0 Ao u111 k (ftAdd w (ftCN w) 0 (nI pl) (nI (C / 128 % 900)) 0) (ftPush w z hm) (min (hm + 1) 5) to no (nI (ftPosW w (nI pl) (ftCN w))) (by omega) hO (lx_rmc (by omega))) (cwV 1 hts gL_isAltered_X10_removePart rfl rfl rfl (by decide +kernel) ⟨Nat.le_of_ble_eq_true rfl, Nat.le_of_ble_eq_true rfl⟩) (ft_preB (ci := 10) (List.Perm.refl _) hP hD hKK hSt hS hA rfl rfl) rfl rfl hl.1 rfl (lv_room (Nat.le_of_ble_eq_true rfl)) dL_isAltered_150 ⟨Nat.le_of_ble_eq_true rfl, Nat.le_of_ble_eq_true rfl⟩) hP hD hS hA (List.Perm.refl _) (fun _ => (List.Perm.symm (List.Perm.refl _))) (fun r150 u150 h150 H locs hP hD hS => ?_)
                    have hP : va_P D vwCl (ftCB9 cI cS o0 Ao (u150.1.2.1 0) u150 ++ ftCB9 cI cS p0 Ap (u99.1.2.1 0) u99) H := hP
                    have hD : va_D A (ftCB9 cI cS o0 Ao (u150.1.2.1 0) u150 ++ ftCB9 cI cS p0 Ap (u99.1.2.1 0) u99) := hD
                    obtain ⟨⟨hr150, hf150⟩, hO⟩ := h150
                    subst hr150
                    refine ft_top (y := nI (ftCN w)) (by rw [ftAdd_cn (by omega), Nat.add_sub_cancel]) ?_
                    have hO := lx_rerow hO hf150 hWf (by omega)
                    refine lv_aload_n hx hb dL_isAltered_153 rfl (lv_at hl 5 rfl) ?_
                    refine lv_bipush (v := 14) hx hb dL_isAltered_154 (by decide) ?_
                    refine ft_callB (X := (ftCB9 cI cS o0 Ao (u150.1.2.1 0) u150)) (Y := (ftCB9 cI cS p0 Ap (u99.1.2.1 0) u99)) (X1 := fun (u156 : ftCdT) => (ftCB9 cI cS o0 Ao (u156.1.2.1 0) u156)) (ws1 := fun (u156 : ftCdT) => (ftCB9 cI cS o0 Ao (u156.1.2.1 0) u156 ++ ftCB9 cI cS p0 Ap (u99.1.2.1 0) u99)) (va_runV (C := RX10) (As := [.int 14]) (rest := [.int (nI (ftCN w))]) ⟨hx, hb, hml, hown, hts⟩ (eo_count l D cI cS H.size sK sV o0 Ao u150 k w (ftPush (ftAdd w (ftCN w) 0 (nI pl) (nI (C / 128 % 900)) 0) (ftPush w z hm) (min (hm + 1) 5)) (min ((min (hm + 1) 5) + 1) 5) to no 14 (by omega) hO) (cwV 1 hts gL_isAltered_X10_count rfl rfl rfl (by decide +kernel) ⟨Nat.le_of_ble_eq_true rfl, Nat.le_of_ble_eq_true rfl⟩) (ft_preB (ci := 10) (List.Perm.refl _) hP hD hKK hSt hS hA rfl rfl) rfl rfl hl.1 rfl (lv_room (Nat.le_of_ble_eq_true rfl)) dL_isAltered_156 ⟨Nat.le_of_ble_eq_true rfl, Nat.le_of_ble_eq_true rfl⟩) hP hD hS hA (List.Perm.refl _) (fun _ => (List.Perm.symm (List.Perm.refl _))) (fun r156 u156 h156 H locs hP hD hS => ?_)
                    have hP : va_P D vwCl (ftCB9 cI cS o0 Ao (u156.1.2.1 0) u156 ++ ftCB9 cI cS p0 Ap (u99.1.2.1 0) u99) H := hP
                    have hD : va_D A (ftCB9 cI cS o0 Ao (u156.1.2.1 0) u156 ++ ftCB9 cI cS p0 Ap (u99.1.2.1 0) u99) := hD
                    obtain ⟨hr156, hO⟩ := h156
                    subst hr156
                    refine ft_top (y := nI (ftCN w)) (lxCnt_14 hWf) ?_
                    refine lv_icmp_ne (tgt := 166) hx hb dL_isAltered_159 (by decide) (fun c159 => ?_) (fun c159 => ?_)
                    · have c159n : (ftCN w) ≠ (ftCN w) := ft_neN (by omega) (by omega) c159
                      exact absurd rfl c159
                    · have c159n : (ftCN w) = (ftCN w) := ft_eqN (by omega) (by omega) c159
                      refine lv_iconst (v := 1) hx hb dL_isAltered_162 (by decide) ?_
                      refine lv_goto (tgt := 167) hx hb dL_isAltered_163 (by decide) ?_
                      refine lv_istore (lv' := [(7, .int 1), (6, .int (nI (ftPosW w (nI pl) (ftCN w)))), (5, .int (nI pl)), (4, .int (ftLlA w (nI (ftCL w)))), (3, .int (nI (ftCL w))), (0, .ref o0), (1, .ref p0), (2, .int (nI C))]) hx hb dL_isAltered_167 hl (by decide) rfl (fun ls hl => ?_)
                      refine lv_goto (tgt := 193) hx hb dL_isAltered_169 (by decide) ?_
                      refine lv_iload hx hb dL_isAltered_193 (lv_at hl 0 rfl) ?_
                      refine lv_if_eq (tgt := 235) hx hb dL_isAltered_195 (by decide) (fun c195 => ?_) (fun c195 => ?_)
                      · exact absurd c195 (by decide)
                      · refine lv_aload_n hx hb dL_isAltered_198 rfl (lv_at hl 5 rfl) ?_
                        refine lv_iload_n hx hb dL_isAltered_199 rfl (lv_at hl 4 rfl) ?_
                        refine ft_callB (X := (ftCB9 cI cS o0 Ao (u156.1.2.1 0) u156)) (Y := (ftCB9 cI cS p0 Ap (u99.1.2.1 0) u99)) (X1 := fun (u200 : ftCdT) => (ftCB9 cI cS o0 Ao (u200.1.2.1 0) u200)) (ws1 := fun (u200 : ftCdT) => (ftCB9 cI cS o0 Ao (u200.1.2.1 0) u200 ++ ftCB9 cI cS p0 Ap (u99.1.2.1 0) u99)) (va_runV (C := RX10) (As := [.int (nI (ftCL w))]) (rest := []) ⟨hx, hb, hml, hown, hts⟩ (eo_lineLoss l D cI cS H.size sK sV o0 Ao u156 k w (ftPush (ftAdd w (ftCN w) 0 (nI pl) (nI (C / 128 % 900)) 0) (ftPush w z hm) (min (hm + 1) 5)) (min ((min (hm + 1) 5) + 1) 5) to no (nI (ftCL w)) (by omega) hO) (cwV 1 hts gL_isAltered_X10_lineLoss rfl rfl rfl (by decide +kernel) ⟨Nat.le_of_ble_eq_true rfl, Nat.le_of_ble_eq_true rfl⟩) (ft_preB (ci := 10) (List.Perm.refl _) hP hD hKK hSt hS hA rfl rfl) rfl rfl hl.1 rfl (lv_room (Nat.le_of_ble_eq_true rfl)) dL_isAltered_200 ⟨Nat.le_of_ble_eq_true rfl, Nat.le_of_ble_eq_true rfl⟩) hP hD hS hA (List.Perm.refl _) (fun _ => (List.Perm.symm (List.Perm.refl _))) (fun r200 u200 h200 H locs hP hD hS => ?_)
                        have hP : va_P D vwCl (ftCB9 cI cS o0 Ao (u200.1.2.1 0) u200 ++ ftCB9 cI cS p0 Ap (u99.1.2.1 0) u99) H := hP
                        have hD : va_D A (ftCB9 cI cS o0 Ao (u200.1.2.1 0) u200 ++ ftCB9 cI cS p0 Ap (u99.1.2.1 0) u99) := hD
                        obtain ⟨hr200, hO⟩ := h200
                        subst hr200
                        refine lv_iload hx hb dL_isAltered_203 (lv_at hl 3 rfl) ?_
                        refine lv_icmp_ne (tgt := 235) hx hb dL_isAltered_205 (by decide) (fun c205 => ?_) (fun c205 => ?_)
                        · exact absurd rfl c205
                        · refine lv_aload_n hx hb dL_isAltered_208 rfl (lv_at hl 5 rfl) ?_
                          refine lv_aload_n hx hb dL_isAltered_209 rfl (lv_at hl 6 rfl) ?_
                          refine ft_callB (X := (ftCB9 cI cS o0 Ao (u200.1.2.1 0) u200 ++ ftCB9 cI cS p0 Ap (u99.1.2.1 0) u99)) (Y := []) (X1 := fun (u210 : ftCdT × ftCdT) => (ftCB9 cI cS o0 Ao (u210.1.1.2.1 0) u210.1 ++ ftCB9 cI cS p0 Ap (u210.2.1.2.1 0) u210.2)) (ws1 := fun (u210 : ftCdT × ftCdT) => (ftCB9 cI cS o0 Ao (u210.1.1.2.1 0) u210.1 ++ ftCB9 cI cS p0 Ap (u210.2.1.2.1 0) u210.2)) (va_runS (As := [.ref o0, .ref p0]) (rest := []) ⟨hx, hb, hml, hown, hts⟩ (c_L_areAlike l D cI cS H.size sK sV o0 p0 Ao Ap u200 u99 k w (ftPush (ftAdd w (ftCN w) 0 (nI pl) (nI (C / 128 % 900)) 0) (ftPush w z hm) (min (hm + 1) 5)) (min ((min (hm + 1) 5) + 1) 5) to no tp np (by omega) hO hQ) (va_cwS 2 hts gL_isAltered_L_areAlike rfl rfl rfl (by decide +kernel) ⟨Nat.le_of_ble_eq_true rfl, Nat.le_of_ble_eq_true rfl⟩) (ft_preBS (ft_pmE _) hP hD hKK hSt hS hA) rfl rfl hl.1 rfl (lv_room (Nat.le_of_ble_eq_true rfl)) dL_isAltered_210 ⟨Nat.le_of_ble_eq_true rfl, Nat.le_of_ble_eq_true rfl⟩) hP hD hS hA (ft_pmE _) (fun _ => (ft_pmE _).symm) (fun r210 u210 h210 H locs hP hD hS => ?_)
                          have hP : va_P D vwCl (ftCB9 cI cS o0 Ao (u210.1.1.2.1 0) u210.1 ++ ftCB9 cI cS p0 Ap (u210.2.1.2.1 0) u210.2) H := hP
                          have hD : va_D A (ftCB9 cI cS o0 Ao (u210.1.1.2.1 0) u210.1 ++ ftCB9 cI cS p0 Ap (u210.2.1.2.1 0) u210.2) := hD
                          obtain ⟨hr210, hO, hQ⟩ := h210
                          subst hr210
                          refine lv_if_eq (tgt := 235) hx hb dL_isAltered_213 (by decide) (fun c213 => ?_) (fun c213 => ?_)
                          · exact absurd c213 (by decide)
                          · refine lv_aload_n hx hb dL_isAltered_216 rfl (lv_at hl 5 rfl) ?_
                            refine lv_aload_n hx hb dL_isAltered_217 rfl (lv_at hl 5 rfl) ?_
                            refine lv_bipush (v := 14) hx hb dL_isAltered_218 (by decide) ?_
                            refine ft_callB (X := (ftCB9 cI cS o0 Ao (u210.1.1.2.1 0) u210.1)) (Y := (ftCB9 cI cS p0 Ap (u210.2.1.2.1 0) u210.2)) (X1 := fun (u220 : ftCdT) => (ftCB9 cI cS o0 Ao (u220.1.2.1 0) u220)) (ws1 := fun (u220 : ftCdT) => (ftCB9 cI cS o0 Ao (u220.1.2.1 0) u220 ++ ftCB9 cI cS p0 Ap (u210.2.1.2.1 0) u210.2)) (va_runV (C := RX10) (As := [.int 14]) (rest := [.ref o0]) ⟨hx, hb, hml, hown, hts⟩ (eo_count l D cI cS H.size sK sV o0 Ao u210.1 k w (ftPush (ftAdd w (ftCN w) 0 (nI pl) (nI (C / 128 % 900)) 0) (ftPush w z hm) (min (hm + 1) 5)) (min ((min (hm + 1) 5) + 1) 5) to no 14 (by omega) hO) (cwV 1 hts gL_isAltered_X10_count rfl rfl rfl (by decide +kernel) ⟨Nat.le_of_ble_eq_true rfl, Nat.le_of_ble_eq_true rfl⟩) (ft_preB (ci := 10) (List.Perm.refl _) hP hD hKK hSt hS hA rfl rfl) rfl rfl hl.1 rfl (lv_room (Nat.le_of_ble_eq_true rfl)) dL_isAltered_220 ⟨Nat.le_of_ble_eq_true rfl, Nat.le_of_ble_eq_true rfl⟩) hP hD hS hA (List.Perm.refl _) (fun _ => (List.Perm.symm (List.Perm.refl _))) (fun r220 u220 h220 H locs hP hD hS => ?_)
                            have hP : va_P D vwCl (ftCB9 cI cS o0 Ao (u220.1.2.1 0) u220 ++ ftCB9 cI cS p0 Ap (u210.2.1.2.1 0) u210.2) H := hP
                            have hD : va_D A (ftCB9 cI cS o0 Ao (u220.1.2.1 0) u220 ++ ftCB9 cI cS p0 Ap (u210.2.1.2.1 0) u210.2) := hD
                            obtain ⟨hr220, hO⟩ := h220
                            subst hr220
                            refine ft_top (y := nI (ftCN w)) (lxCnt_14 hWf) ?_
                            refine ft_callB (X := (ftCB9 cI cS o0 Ao (u220.1.2.1 0) u220)) (Y := (ftCB9 cI cS p0 Ap (u210.2.1.2.1 0) u210.2)) (X1 := fun (u223 : ftCdT) => (ftCB9 cI cS o0 Ao (u223.1.2.1 0) u223)) (ws1 := fun (u223 : ftCdT) => (ftCB9 cI cS o0 Ao (u223.1.2.1 0) u223 ++ ftCB9 cI cS p0 Ap (u210.2.1.2.1 0) u210.2)) (va_runV (C := RX10) (As := [.int (nI (ftCN w))]) (rest := []) ⟨hx, hb, hml, hown, hts⟩ (eo_removePartN l D cI cS H.size sK sV o0 Ao u220 k w (ftPush (ftAdd w (ftCN w) 0 (nI pl) (nI (C / 128 % 900)) 0) (ftPush w z hm) (min (hm + 1) 5)) (min ((min (hm + 1) 5) + 1) 5) to no (nI (ftCN w)) (by omega) hO (lx_rmn hWf)) (cwV 1 hts gL_isAltered_X10_removePart rfl rfl rfl (by decide +kernel) ⟨Nat.le_of_ble_eq_true rfl, Nat.le_of_ble_eq_true rfl⟩) (ft_preB (ci := 10) (List.Perm.refl _) hP hD hKK hSt hS hA rfl rfl) rfl rfl hl.1 rfl (lv_room (Nat.le_of_ble_eq_true rfl)) dL_isAltered_223 ⟨Nat.le_of_ble_eq_true rfl, Nat.le_of_ble_eq_true rfl⟩) hP hD hS hA (List.Perm.refl _) (fun _ => (List.Perm.symm (List.Perm.refl _))) (fun r223 u223 h223 H locs hP hD hS => ?_)
                            have hP : va_P D vwCl (ftCB9 cI cS o0 Ao (u223.1.2.1 0) u223 ++ ftCB9 cI cS p0 Ap (u210.2.1.2.1 0) u210.2) H := hP
                            have hD : va_D A (ftCB9 cI cS o0 Ao (u223.1.2.1 0) u223 ++ ftCB9 cI cS p0 Ap (u210.2.1.2.1 0) u210.2) := hD
                            obtain ⟨hr223, hO⟩ := h223
                            subst hr223
                            refine lv_ldc (v := (-1000001)) hx hb hown (hts (.constant RL 82 (-1000001)) (by decide +kernel)) dL_isAltered_226 ?_
                            refine lv_icmp_ne (tgt := 235) hx hb dL_isAltered_228 (by decide) (fun c228 => ?_) (fun c228 => ?_)
                            · exact absurd (by decide) c228
                            · refine lv_iconst (v := 1) hx hb dL_isAltered_231 (by decide) ?_
                              refine lv_goto (tgt := 236) hx hb dL_isAltered_232 (by decide) ?_
                              obtain ⟨u9, hu9⟩ : ∃ u9 : ftCdT × ftCdT, u9 = (u223, u210.2) := ⟨_, rfl⟩
                              have hw9 : ((ftCB9 cI cS o0 Ao (u223.1.2.1 0) u223 ++ ftCB9 cI cS p0 Ap (u210.2.1.2.1 0) u210.2) : va_W) = (ftCB9 cI cS o0 Ao (u9.1.1.2.1 0) u9.1 ++ ftCB9 cI cS p0 Ap (u9.2.1.2.1 0) u9.2) := by subst hu9; rfl
                              rw [hw9] at hP hD
                              have hf9_0 : ∃ z9 h9, lxO k u9.1 w z9 h9 to no := by rw [hu9]; exact ⟨_, _, hO⟩
                              have hf9_1 : lxQ u9.2 w tp np := by rw [hu9]; exact hQ
                              have hr9 : (1 : Int32) = 1 := by exact rfl
                              exact W.zret (v := 1) hx hb hr (by rfl) (fun t ht hW => ⟨⟨1, u9, rfl, ⟨hr9, ⟨hf9_0, hf9_1⟩⟩, by rw [ht]; exact hP, by rw [hAe]; exact hD⟩, by rw [hAe]; exact hS.F ht⟩) hS.2.2 dL_isAltered_236
                  · have c134n : (C % 2) = 0 := ft_eqN (by omega) (by omega) c134
                    refine lv_aload_n hx hb dL_isAltered_137 rfl (lv_at hl 5 rfl) ?_
                    refine ft_callB (X := (ftCB9 cI cS o0 Ao (u111.1.2.1 0) u111)) (Y := (ftCB9 cI cS p0 Ap (u99.1.2.1 0) u99)) (X1 := fun (u138 : ftCdT) => (ftCB9 cI cS o0 Ao (u138.1.2.1 0) u138)) (ws1 := fun (u138 : ftCdT) => (ftCB9 cI cS o0 Ao (u138.1.2.1 0) u138 ++ ftCB9 cI cS p0 Ap (u99.1.2.1 0) u99)) (va_runV (C := RX10) (As := []) (rest := []) ⟨hx, hb, hml, hown, hts⟩ (eo_undo l D cI cS H.size sK sV o0 Ao u111 k (ftAdd w (ftCN w) 0 (nI pl) (nI (C / 128 % 900)) 0) (ftPush w z hm) (min (hm + 1) 5) to no (by omega) hO (by omega)) (cwV 0 hts gL_isAltered_X10_undo rfl rfl rfl (by decide +kernel) ⟨Nat.le_of_ble_eq_true rfl, Nat.le_of_ble_eq_true rfl⟩) (ft_preB (ci := 10) (List.Perm.refl _) hP hD hKK hSt hS hA rfl rfl) rfl rfl hl.1 rfl (lv_room (Nat.le_of_ble_eq_true rfl)) dL_isAltered_138 ⟨Nat.le_of_ble_eq_true rfl, Nat.le_of_ble_eq_true rfl⟩) hP hD hS hA (List.Perm.refl _) (fun _ => (List.Perm.symm (List.Perm.refl _))) (fun r138 u138 h138 H locs hP hD hS => ?_)
                    have hP : va_P D vwCl (ftCB9 cI cS o0 Ao (u138.1.2.1 0) u138 ++ ftCB9 cI cS p0 Ap (u99.1.2.1 0) u99) H := hP
                    have hD : va_D A (ftCB9 cI cS o0 Ao (u138.1.2.1 0) u138 ++ ftCB9 cI cS p0 Ap (u99.1.2.1 0) u99) := hD
                    obtain ⟨hr138, hO⟩ := h138
                    subst hr138
                    refine lv_if_lt (tgt := 166) hx hb dL_isAltered_141 (by decide) (fun c141 => ?_) (fun c141 => ?_)
                    · exact absurd c141 (nI_pos (by omega))
                    · refine lv_goto (tgt := 162) hx hb dL_isAltered_144 (by decide) ?_
                      have hO := lx_undo hO hh5 (fun t ht => ftAdd_tl (by omega) (by omega))
                      refine lv_iconst (v := 1) hx hb dL_isAltered_162 (by decide) ?_
                      refine lv_goto (tgt := 167) hx hb dL_isAltered_163 (by decide) ?_
                      refine lv_istore (lv' := [(7, .int 1), (6, .int (nI (ftPosW w (nI pl) (ftCN w)))), (5, .int (nI pl)), (4, .int (ftLlA w (nI (ftCL w)))), (3, .int (nI (ftCL w))), (0, .ref o0), (1, .ref p0), (2, .int (nI C))]) hx hb dL_isAltered_167 hl (by decide) rfl (fun ls hl => ?_)
                      refine lv_goto (tgt := 193) hx hb dL_isAltered_169 (by decide) ?_
                      refine lv_iload hx hb dL_isAltered_193 (lv_at hl 0 rfl) ?_
                      refine lv_if_eq (tgt := 235) hx hb dL_isAltered_195 (by decide) (fun c195 => ?_) (fun c195 => ?_)
                      · exact absurd c195 (by decide)
                      · refine lv_aload_n hx hb dL_isAltered_198 rfl (lv_at hl 5 rfl) ?_
                        refine lv_iload_n hx hb dL_isAltered_199 rfl (lv_at hl 4 rfl) ?_
                        refine ft_callB (X := (ftCB9 cI cS o0 Ao (u138.1.2.1 0) u138)) (Y := (ftCB9 cI cS p0 Ap (u99.1.2.1 0) u99)) (X1 := fun (u200 : ftCdT) => (ftCB9 cI cS o0 Ao (u200.1.2.1 0) u200)) (ws1 := fun (u200 : ftCdT) => (ftCB9 cI cS o0 Ao (u200.1.2.1 0) u200 ++ ftCB9 cI cS p0 Ap (u99.1.2.1 0) u99)) (va_runV (C := RX10) (As := [.int (nI (ftCL w))]) (rest := []) ⟨hx, hb, hml, hown, hts⟩ (eo_lineLoss l D cI cS H.size sK sV o0 Ao u138 k w (ftPush w z hm) ((min (hm + 1) 5) - 1) to no (nI (ftCL w)) (by omega) hO) (cwV 1 hts gL_isAltered_X10_lineLoss rfl rfl rfl (by decide +kernel) ⟨Nat.le_of_ble_eq_true rfl, Nat.le_of_ble_eq_true rfl⟩) (ft_preB (ci := 10) (List.Perm.refl _) hP hD hKK hSt hS hA rfl rfl) rfl rfl hl.1 rfl (lv_room (Nat.le_of_ble_eq_true rfl)) dL_isAltered_200 ⟨Nat.le_of_ble_eq_true rfl, Nat.le_of_ble_eq_true rfl⟩) hP hD hS hA (List.Perm.refl _) (fun _ => (List.Perm.symm (List.Perm.refl _))) (fun r200 u200 h200 H locs hP hD hS => ?_)
                        have hP : va_P D vwCl (ftCB9 cI cS o0 Ao (u200.1.2.1 0) u200 ++ ftCB9 cI cS p0 Ap (u99.1.2.1 0) u99) H := hP
                        have hD : va_D A (ftCB9 cI cS o0 Ao (u200.1.2.1 0) u200 ++ ftCB9 cI cS p0 Ap (u99.1.2.1 0) u99) := hD
                        obtain ⟨hr200, hO⟩ := h200
                        subst hr200
                        refine lv_iload hx hb dL_isAltered_203 (lv_at hl 3 rfl) ?_
                        refine lv_icmp_ne (tgt := 235) hx hb dL_isAltered_205 (by decide) (fun c205 => ?_) (fun c205 => ?_)
                        · exact absurd rfl c205
                        · refine lv_aload_n hx hb dL_isAltered_208 rfl (lv_at hl 5 rfl) ?_
                          refine lv_aload_n hx hb dL_isAltered_209 rfl (lv_at hl 6 rfl) ?_
                          refine ft_callB (X := (ftCB9 cI cS o0 Ao (u200.1.2.1 0) u200 ++ ftCB9 cI cS p0 Ap (u99.1.2.1 0) u99)) (Y := []) (X1 := fun (u210 : ftCdT × ftCdT) => (ftCB9 cI cS o0 Ao (u210.1.1.2.1 0) u210.1 ++ ftCB9 cI cS p0 Ap (u210.2.1.2.1 0) u210.2)) (ws1 := fun (u210 : ftCdT × ftCdT) => (ftCB9 cI cS o0 Ao (u210.1.1.2.1 0) u210.1 ++ ftCB9 cI cS p0 Ap (u210.2.1.2.1 0) u210.2)) (va_runS (As := [.ref o0, .ref p0]) (rest := []) ⟨hx, hb, hml, hown, hts⟩ (c_L_areAlike l D cI cS H.size sK sV o0 p0 Ao Ap u200 u99 k w (ftPush w z hm) ((min (hm + 1) 5) - 1) to no tp np (by omega) hO hQ) (va_cwS 2 hts gL_isAltered_L_areAlike rfl rfl rfl (by decide +kernel) ⟨Nat.le_of_ble_eq_true rfl, Nat.le_of_ble_eq_true rfl⟩) (ft_preBS (ft_pmE _) hP hD hKK hSt hS hA) rfl rfl hl.1 rfl (lv_room (Nat.le_of_ble_eq_true rfl)) dL_isAltered_210 ⟨Nat.le_of_ble_eq_true rfl, Nat.le_of_ble_eq_true rfl⟩) hP hD hS hA (ft_pmE _) (fun _ => (ft_pmE _).symm) (fun r210 u210 h210 H locs hP hD hS => ?_)
                          have hP : va_P D vwCl (ftCB9 cI cS o0 Ao (u210.1.1.2.1 0) u210.1 ++ ftCB9 cI cS p0 Ap (u210.2.1.2.1 0) u210.2) H := hP
                          have hD : va_D A (ftCB9 cI cS o0 Ao (u210.1.1.2.1 0) u210.1 ++ ftCB9 cI cS p0 Ap (u210.2.1.2.1 0) u210.2) := hD
                          obtain ⟨hr210, hO, hQ⟩ := h210
                          subst hr210
                          refine lv_if_eq (tgt := 235) hx hb dL_isAltered_213 (by decide) (fun c213 => ?_) (fun c213 => ?_)
                          · exact absurd c213 (by decide)
                          · refine lv_aload_n hx hb dL_isAltered_216 rfl (lv_at hl 5 rfl) ?_
                            refine lv_aload_n hx hb dL_isAltered_217 rfl (lv_at hl 5 rfl) ?_
                            refine lv_bipush (v := 14) hx hb dL_isAltered_218 (by decide) ?_
                            refine ft_callB (X := (ftCB9 cI cS o0 Ao (u210.1.1.2.1 0) u210.1)) (Y := (ftCB9 cI cS p0 Ap (u210.2.1.2.1 0) u210.2)) (X1 := fun (u220 : ftCdT) => (ftCB9 cI cS o0 Ao (u220.1.2.1 0) u220)) (ws1 := fun (u220 : ftCdT) => (ftCB9 cI cS o0 Ao (u220.1.2.1 0) u220 ++ ftCB9 cI cS p0 Ap (u210.2.1.2.1 0) u210.2)) (va_runV (C := RX10) (As := [.int 14]) (rest := [.ref o0]) ⟨hx, hb, hml, hown, hts⟩ (eo_count l D cI cS H.size sK sV o0 Ao u210.1 k w (ftPush w z hm) ((min (hm + 1) 5) - 1) to no 14 (by omega) hO) (cwV 1 hts gL_isAltered_X10_count rfl rfl rfl (by decide +kernel) ⟨Nat.le_of_ble_eq_true rfl, Nat.le_of_ble_eq_true rfl⟩) (ft_preB (ci := 10) (List.Perm.refl _) hP hD hKK hSt hS hA rfl rfl) rfl rfl hl.1 rfl (lv_room (Nat.le_of_ble_eq_true rfl)) dL_isAltered_220 ⟨Nat.le_of_ble_eq_true rfl, Nat.le_of_ble_eq_true rfl⟩) hP hD hS hA (List.Perm.refl _) (fun _ => (List.Perm.symm (List.Perm.refl _))) (fun r220 u220 h220 H locs hP hD hS => ?_)
                            have hP : va_P D vwCl (ftCB9 cI cS o0 Ao (u220.1.2.1 0) u220 ++ ftCB9 cI cS p0 Ap (u210.2.1.2.1 0) u210.2) H := hP
                            have hD : va_D A (ftCB9 cI cS o0 Ao (u220.1.2.1 0) u220 ++ ftCB9 cI cS p0 Ap (u210.2.1.2.1 0) u210.2) := hD
                            obtain ⟨hr220, hO⟩ := h220
                            subst hr220
                            refine ft_top (y := nI (ftCN w)) (lxCnt_14 hWf) ?_
                            refine ft_callB (X := (ftCB9 cI cS o0 Ao (u220.1.2.1 0) u220)) (Y := (ftCB9 cI cS p0 Ap (u210.2.1.2.1 0) u210.2)) (X1 := fun (u223 : ftCdT) => (ftCB9 cI cS o0 Ao (u223.1.2.1 0) u223)) (ws1 := fun (u223 : ftCdT) => (ftCB9 cI cS o0 Ao (u223.1.2.1 0) u223 ++ ftCB9 cI cS p0 Ap (u210.2.1.2.1 0) u210.2)) (va_runV (C := RX10) (As := [.int (nI (ftCN w))]) (rest := []) ⟨hx, hb, hml, hown, hts⟩ (eo_removePartN l D cI cS H.size sK sV o0 Ao u220 k w (ftPush w z hm) ((min (hm + 1) 5) - 1) to no (nI (ftCN w)) (by omega) hO (lx_rmn hWf)) (cwV 1 hts gL_isAltered_X10_removePart rfl rfl rfl (by decide +kernel) ⟨Nat.le_of_ble_eq_true rfl, Nat.le_of_ble_eq_true rfl⟩) (ft_preB (ci := 10) (List.Perm.refl _) hP hD hKK hSt hS hA rfl rfl) rfl rfl hl.1 rfl (lv_room (Nat.le_of_ble_eq_true rfl)) dL_isAltered_223 ⟨Nat.le_of_ble_eq_true rfl, Nat.le_of_ble_eq_true rfl⟩) hP hD hS hA (List.Perm.refl _) (fun _ => (List.Perm.symm (List.Perm.refl _))) (fun r223 u223 h223 H locs hP hD hS => ?_)
                            have hP : va_P D vwCl (ftCB9 cI cS o0 Ao (u223.1.2.1 0) u223 ++ ftCB9 cI cS p0 Ap (u210.2.1.2.1 0) u210.2) H := hP
                            have hD : va_D A (ftCB9 cI cS o0 Ao (u223.1.2.1 0) u223 ++ ftCB9 cI cS p0 Ap (u210.2.1.2.1 0) u210.2) := hD
                            obtain ⟨hr223, hO⟩ := h223
                            subst hr223
                            refine lv_ldc (v := (-1000001)) hx hb hown (hts (.constant RL 82 (-1000001)) (by decide +kernel)) dL_isAltered_226 ?_
                            refine lv_icmp_ne (tgt := 235) hx hb dL_isAltered_228 (by decide) (fun c228 => ?_) (fun c228 => ?_)
                            · exact absurd (by decide) c228
                            · refine lv_iconst (v := 1) hx hb dL_isAltered_231 (by decide) ?_
                              refine lv_goto (tgt := 236) hx hb dL_isAltered_232 (by decide) ?_
                              obtain ⟨u9, hu9⟩ : ∃ u9 : ftCdT × ftCdT, u9 = (u223, u210.2) := ⟨_, rfl⟩
                              have hw9 : ((ftCB9 cI cS o0 Ao (u223.1.2.1 0) u223 ++ ftCB9 cI cS p0 Ap (u210.2.1.2.1 0) u210.2) : va_W) = (ftCB9 cI cS o0 Ao (u9.1.1.2.1 0) u9.1 ++ ftCB9 cI cS p0 Ap (u9.2.1.2.1 0) u9.2) := by subst hu9; rfl
                              rw [hw9] at hP hD
                              have hf9_0 : ∃ z9 h9, lxO k u9.1 w z9 h9 to no := by rw [hu9]; exact ⟨_, _, hO⟩
                              have hf9_1 : lxQ u9.2 w tp np := by rw [hu9]; exact hQ
                              have hr9 : (1 : Int32) = 1 := by exact rfl
                              exact W.zret (v := 1) hx hb hr (by rfl) (fun t ht hW => ⟨⟨1, u9, rfl, ⟨hr9, ⟨hf9_0, hf9_1⟩⟩, by rw [ht]; exact hP, by rw [hAe]; exact hD⟩, by rw [hAe]; exact hS.F ht⟩) hS.2.2 dL_isAltered_236
