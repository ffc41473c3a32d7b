set_option maxHeartbeats 4000000 in
set_option maxRecDepth 100000 in
theorem c_L_isKept (l : Launch) (D : va_G) (cI cS : ClassId) (sz : Nat) (sK sV : Nat → Nat) (o0 : Nat) (Ao : Nat → Nat → Nat) (co : ftCdT) (k : Nat) (w z : Nat → Int32) (hm : Nat) (to : Nat → Int32) (no : Nat) (C : Nat) (hk : k < 890) (hO : lxO k co w z hm to no) (hC : C < 2 ^ 31) (h0 : w (44 + 3) = 0) : Met l yL_isKept wsL_isKept ({ frames := 7, cells := 0, slots := 0, locals := 173 }) (ftRWS D cI cS sK sV [.ref o0, .int (nI C)] (ftCB9 cI cS o0 Ao (co.1.2.1 0) co) sz) (ftXi D (ftCB9 cI cS o0 Ao (co.1.2.1 0) co) sz (fun (o9 : Int32) (u : ftCdT) => o9 = 1 ∧ (∃ z9 h9, lxO (k + 1) u (ftKeep w) z9 h9 to no)) (fun (u : ftCdT) => (ftCB9 cI cS o0 Ao (u.1.2.1 0) u))) 0 0 (va_A (ftCB9 cI cS o0 Ao (co.1.2.1 0) co) sz) := by
  refine Met.ofW (cc := cL_isKept) (maxL := 14) (ret := (some .boolean)) (by decide) rfl ?_
  intro p e s m args below meth c s₁ B hml hv
  obtain ⟨rfl, hsz, hP, hKK, hD0, hSt⟩ := hv
  have hK := hKK.1
  have hx := B.exec
  have hb := B.bytes
  have hr := B.returns
  have hts := atoms_spec (ws := wsL_isKept) B.pre
  have hown : s.vm.findClass RL = some m.cls := findClass_of_methodNamed B.named
  have hlocks := B.notSynchronized
  subst hsz
  have hD := hD0.self (sz := s.heap.size)
  generalize hAe : va_A (ftCB9 cI cS o0 Ao (co.1.2.1 0) co) s.heap.size = A at hD hSt ⊢
  have hA : ∀ q : Nat, s.heap.size ≤ q → A q := fun q h => by rw [← hAe]; exact Or.inr h
  have hS : va_S A s.heap s.heap [] := va_S.rf
  have hD : va_D A (ftCB9 cI cS o0 Ao (co.1.2.1 0) co) := hD
  have hP : va_P D vwCl (ftCB9 cI cS o0 Ao (co.1.2.1 0) co) s.heap := hP
  have hl := lv_entry ([.ref o0, .int (nI C)]) (n := 14) (Nat.le_of_ble_eq_true rfl)
  rw [lg_entry_eq]
  generalize (lg_sl ([.ref o0, .int (nI C)]) ++ List.replicate (14 - (lg_sl ([.ref o0, .int (nI C)])).length) Slot.unset).toArray = ls at hl ⊢
  have hl : lv_has ls 14 [(0, .ref o0), (1, .int (nI C))] := hl
  have hWf := lxO_W hO
  have hh5 := lxO_5 hO
  have hln := ftWf_ln hWf
  have hlg := ftWf_lg hWf
  have hck := ftWf_kp hWf
  have hK3 := (lxKk hWf).1
  refine lv_aload_n hx hb dL_isKept_0 rfl (lv_at hl 0 rfl) ?_
  refine lv_bipush (v := 16) hx hb dL_isKept_1 (by decide) ?_
  refine ft_callB (X := (ftCB9 cI cS o0 Ao (co.1.2.1 0) co)) (Y := []) (X1 := fun (u3 : ftCdT) => (ftCB9 cI cS o0 Ao (u3.1.2.1 0) u3)) (ws1 := fun (u3 : ftCdT) => (ftCB9 cI cS o0 Ao (u3.1.2.1 0) u3)) (va_runV (C := RX10) (As := [.int 16]) (rest := []) ⟨hx, hb, hml, hown, hts⟩ (eo_count l D cI cS s.heap.size sK sV o0 Ao co k w z hm to no 16 (by omega) hO) (cwV 1 hts gL_isKept_X10_count rfl rfl rfl (by decide +kernel) ⟨Nat.le_of_ble_eq_true rfl, Nat.le_of_ble_eq_true rfl⟩) (ft_preB (ci := 10) (ft_pmE _) hP hD hKK hSt hS hA rfl rfl) rfl rfl hl.1 rfl (lv_room (Nat.le_of_ble_eq_true rfl)) dL_isKept_3 ⟨Nat.le_of_ble_eq_true rfl, Nat.le_of_ble_eq_true rfl⟩) hP hD hS hA (ft_pmE _) (fun _ => (ft_pmE _).symm) (fun r3 u3 h3 H locs hP hD hS => ?_)
  have hP : va_P D vwCl (ftCB9 cI cS o0 Ao (u3.1.2.1 0) u3) H := hP
  have hD : va_D A (ftCB9 cI cS o0 Ao (u3.1.2.1 0) u3) := hD
  obtain ⟨hr3, hO⟩ := h3
  subst hr3
  refine ft_top (y := nI (ftCK w)) (lxCnt_16 hWf) ?_
  refine lv_istore_n (lv' := [(2, .int (nI (ftCK w))), (0, .ref o0), (1, .int (nI C))]) hx hb dL_isKept_6 rfl hl (by decide) rfl (fun ls hl => ?_)
  have jn19 : ∀ (H : Heap) (locs : List Loc), va_P D vwCl (ftCB9 cI cS o0 Ao (u3.1.2.1 0) u3) H → va_D A (ftCB9 cI cS o0 Ao (u3.1.2.1 0) u3) → va_S A s.heap H locs → ∀ ls : Array Slot, lv_has ls 14 [(2, .int (nI (ftCK w))), (0, .ref o0), (1, .int (nI C))] → W p l e (headSpec wsL_isKept { frames := 7, cells := 0, slots := 0, locals := 173 }).room s m ([.ref o0, .int (nI C)] : List Value).toArray below meth c H locs 0 0 (MQ below (ftXi D (ftCB9 cI cS o0 Ao (co.1.2.1 0) co) s.heap.size (fun (o9 : Int32) (u : ftCdT) => o9 = 1 ∧ (∃ z9 h9, lxO (k + 1) u (ftKeep w) z9 h9 to no)) (fun (u : ftCdT) => (ftCB9 cI cS o0 Ao (u.1.2.1 0) u))) ([.ref o0, .int (nI C)] : List Value).toArray s 0 0 A) (F0 m 19 ls [.int (nI (ftKk w + 1))]) := by
    intro   H locs hP hD hS ls hl
    refine lv_istore_n (lv' := [(3, .int (nI (ftKk w + 1))), (2, .int (nI (ftCK w))), (0, .ref o0), (1, .int (nI C))]) hx hb dL_isKept_19 rfl hl (by decide) rfl (fun ls hl => ?_)
    refine lv_aload_n hx hb dL_isKept_20 rfl (lv_at hl 2 rfl) ?_
    refine ft_callB (X := (ftCB9 cI cS o0 Ao (u3.1.2.1 0) u3)) (Y := []) (X1 := fun (u21 : ftCdT) => (ftCB9 cI cS o0 Ao (u21.1.2.1 0) u21)) (ws1 := fun (u21 : ftCdT) => (ftCB9 cI cS o0 Ao (u21.1.2.1 0) u21)) (va_runV (C := RX10) (As := []) (rest := []) ⟨hx, hb, hml, hown, hts⟩ (eo_keep l D cI cS H.size sK sV o0 Ao u3 k w z hm to no (by omega) hO) (cwV 0 hts gL_isKept_X10_keep rfl rfl rfl (by decide +kernel) ⟨Nat.le_of_ble_eq_true rfl, Nat.le_of_ble_eq_true rfl⟩) (ft_preB (ci := 10) (ft_pmE _) hP hD hKK hSt hS hA rfl rfl) rfl rfl hl.1 rfl (lv_room (Nat.le_of_ble_eq_true rfl)) dL_isKept_21 ⟨Nat.le_of_ble_eq_true rfl, Nat.le_of_ble_eq_true rfl⟩) hP hD hS hA (ft_pmE _) (fun _ => (ft_pmE _).symm) (fun r21 u21 h21 H locs hP hD hS => ?_)
    have hP : va_P D vwCl (ftCB9 cI cS o0 Ao (u21.1.2.1 0) u21) H := hP
    have hD : va_D A (ftCB9 cI cS o0 Ao (u21.1.2.1 0) u21) := hD
    obtain ⟨hr21, hO⟩ := h21
    subst hr21
    refine lv_iload_n hx hb dL_isKept_24 rfl (lv_at hl 0 rfl) ?_
    refine lv_icmp_ne (tgt := 94) hx hb dL_isKept_25 (by decide) (fun c25 => ?_) (fun c25 => ?_)
    · have c25n : (ftKk w + 1) ≠ (ftKk w + 1) := ft_neN (by omega) (by omega) c25
      exact absurd rfl c25
    · have c25n : (ftKk w + 1) = (ftKk w + 1) := ft_eqN (by omega) (by omega) c25
      refine lv_aload_n hx hb dL_isKept_28 rfl (lv_at hl 2 rfl) ?_
      refine lv_iload_n hx hb dL_isKept_29 rfl (lv_at hl 0 rfl) ?_
      refine lv_iconst (v := 1) hx hb dL_isKept_30 (by decide) ?_
      refine lv_isub hx hb dL_isKept_31 ?_
      refine ft_top (y := nI (ftKk w)) (ft_subN (a := ftKk w + 1) (b := 1) (by omega)) ?_
      refine lv_iconst (v := 0) hx hb dL_isKept_32 (by decide) ?_
      refine lv_iconst (v := 0) hx hb dL_isKept_33 (by decide) ?_
      refine ft_callB (X := (ftCB9 cI cS o0 Ao (u21.1.2.1 0) u21)) (Y := []) (X1 := fun (u34 : ftCdT) => (ftCB9 cI cS o0 Ao (u34.1.2.1 0) u34)) (ws1 := fun (u34 : ftCdT) => (ftCB9 cI cS o0 Ao (u34.1.2.1 0) u34)) (va_runV (C := RX10) (As := [.int (nI (ftKk w)), .int 0, .int 0]) (rest := []) ⟨hx, hb, hml, hown, hts⟩ (eo_compare l D cI cS H.size sK sV o0 Ao u21 (k + 1) (ftKeep w) (ftPush w z hm) (min (hm + 1) 5) to no (nI (ftKk w)) 0 0 (by omega) hO) (cwV 3 hts gL_isKept_X10_compare rfl rfl rfl (by decide +kernel) ⟨Nat.le_of_ble_eq_true rfl, Nat.le_of_ble_eq_true rfl⟩) (ft_preB (ci := 10) (ft_pmE _) hP hD hKK hSt hS hA rfl rfl) rfl rfl hl.1 rfl (lv_room (Nat.le_of_ble_eq_true rfl)) dL_isKept_34 ⟨Nat.le_of_ble_eq_true rfl, Nat.le_of_ble_eq_true rfl⟩) hP hD hS hA (ft_pmE _) (fun _ => (ft_pmE _).symm) (fun r34 u34 h34 H locs hP hD hS => ?_)
      have hP : va_P D vwCl (ftCB9 cI cS o0 Ao (u34.1.2.1 0) u34) H := hP
      have hD : va_D A (ftCB9 cI cS o0 Ao (u34.1.2.1 0) u34) := hD
      obtain ⟨hr34, hO⟩ := h34
      subst hr34
      refine ft_top (y := (-1000004)) (lxKp_self hWf (j := 0) (by omega)) ?_
      refine lv_ldc (v := (-1000004)) hx hb hown (hts (.constant RL 70 (-1000004)) (by decide +kernel)) dL_isKept_37 ?_
      refine lv_icmp_ne (tgt := 94) hx hb dL_isKept_39 (by decide) (fun c39 => ?_) (fun c39 => ?_)
      · exact absurd (by decide) c39
      · refine lv_aload_n hx hb dL_isKept_42 rfl (lv_at hl 2 rfl) ?_
        refine lv_iload_n hx hb dL_isKept_43 rfl (lv_at hl 0 rfl) ?_
        refine lv_iconst (v := 1) hx hb dL_isKept_44 (by decide) ?_
        refine lv_isub hx hb dL_isKept_45 ?_
        refine ft_top (y := nI (ftKk w)) (ft_subN (a := ftKk w + 1) (b := 1) (by omega)) ?_
        refine lv_iconst (v := 0) hx hb dL_isKept_46 (by decide) ?_
        refine lv_iconst (v := 1) hx hb dL_isKept_47 (by decide) ?_
        refine ft_callB (X := (ftCB9 cI cS o0 Ao (u34.1.2.1 0) u34)) (Y := []) (X1 := fun (u48 : ftCdT) => (ftCB9 cI cS o0 Ao (u48.1.2.1 0) u48)) (ws1 := fun (u48 : ftCdT) => (ftCB9 cI cS o0 Ao (u48.1.2.1 0) u48)) (va_runV (C := RX10) (As := [.int (nI (ftKk w)), .int 0, .int 1]) (rest := []) ⟨hx, hb, hml, hown, hts⟩ (eo_compare l D cI cS H.size sK sV o0 Ao u34 (k + 1) (ftKeep w) (ftPush w z hm) (min (hm + 1) 5) to no (nI (ftKk w)) 0 1 (by omega) hO) (cwV 3 hts gL_isKept_X10_compare rfl rfl rfl (by decide +kernel) ⟨Nat.le_of_ble_eq_true rfl, Nat.le_of_ble_eq_true rfl⟩) (ft_preB (ci := 10) (ft_pmE _) hP hD hKK hSt hS hA rfl rfl) rfl rfl hl.1 rfl (lv_room (Nat.le_of_ble_eq_true rfl)) dL_isKept_48 ⟨Nat.le_of_ble_eq_true rfl, Nat.le_of_ble_eq_true rfl⟩) hP hD hS hA (ft_pmE _) (fun _ => (ft_pmE _).symm) (fun r48 u48 h48 H locs hP hD hS => ?_)
        have hP : va_P D vwCl (ftCB9 cI cS o0 Ao (u48.1.2.1 0) u48) H := hP
        have hD : va_D A (ftCB9 cI cS o0 Ao (u48.1.2.1 0) u48) := hD
        obtain ⟨hr48, hO⟩ := h48
        subst hr48
        refine ft_top (y := 0) (lxKp_self hWf (j := 1) (by omega)) ?_
        refine lv_if_ne (tgt := 94) hx hb dL_isKept_51 (by decide) (fun c51 => ?_) (fun c51 => ?_)
        · exact absurd rfl c51
        · refine lv_aload_n hx hb dL_isKept_54 rfl (lv_at hl 2 rfl) ?_
          refine lv_iload_n hx hb dL_isKept_55 rfl (lv_at hl 0 rfl) ?_
          refine lv_iconst (v := 1) hx hb dL_isKept_56 (by decide) ?_
          refine lv_isub hx hb dL_isKept_57 ?_
          refine ft_top (y := nI (ftKk w)) (ft_subN (a := ftKk w + 1) (b := 1) (by omega)) ?_
          refine lv_iconst (v := 0) hx hb dL_isKept_58 (by decide) ?_
          refine lv_iconst (v := 2) hx hb dL_isKept_59 (by decide) ?_
          refine ft_callB (X := (ftCB9 cI cS o0 Ao (u48.1.2.1 0) u48)) (Y := []) (X1 := fun (u60 : ftCdT) => (ftCB9 cI cS o0 Ao (u60.1.2.1 0) u60)) (ws1 := fun (u60 : ftCdT) => (ftCB9 cI cS o0 Ao (u60.1.2.1 0) u60)) (va_runV (C := RX10) (As := [.int (nI (ftKk w)), .int 0, .int 2]) (rest := []) ⟨hx, hb, hml, hown, hts⟩ (eo_compare l D cI cS H.size sK sV o0 Ao u48 (k + 1) (ftKeep w) (ftPush w z hm) (min (hm + 1) 5) to no (nI (ftKk w)) 0 2 (by omega) hO) (cwV 3 hts gL_isKept_X10_compare rfl rfl rfl (by decide +kernel) ⟨Nat.le_of_ble_eq_true rfl, Nat.le_of_ble_eq_true rfl⟩) (ft_preB (ci := 10) (ft_pmE _) hP hD hKK hSt hS hA rfl rfl) rfl rfl hl.1 rfl (lv_room (Nat.le_of_ble_eq_true rfl)) dL_isKept_60 ⟨Nat.le_of_ble_eq_true rfl, Nat.le_of_ble_eq_true rfl⟩) hP hD hS hA (ft_pmE _) (fun _ => (ft_pmE _).symm) (fun r60 u60 h60 H locs hP hD hS => ?_)
          have hP : va_P D vwCl (ftCB9 cI cS o0 Ao (u60.1.2.1 0) u60) H := hP
          have hD : va_D A (ftCB9 cI cS o0 Ao (u60.1.2.1 0) u60) := hD
          obtain ⟨hr60, hO⟩ := h60
          subst hr60
          refine ft_top (y := 0) (lxKp_self hWf (j := 2) (by omega)) ?_
          refine lv_if_ne (tgt := 94) hx hb dL_isKept_63 (by decide) (fun c63 => ?_) (fun c63 => ?_)
          · exact absurd rfl c63
          · refine lv_aload_n hx hb dL_isKept_66 rfl (lv_at hl 2 rfl) ?_
            refine lv_iload_n hx hb dL_isKept_67 rfl (lv_at hl 0 rfl) ?_
            refine lv_iconst (v := 1) hx hb dL_isKept_68 (by decide) ?_
            refine lv_isub hx hb dL_isKept_69 ?_
            refine ft_top (y := nI (ftKk w)) (ft_subN (a := ftKk w + 1) (b := 1) (by omega)) ?_
            refine lv_iconst (v := 0) hx hb dL_isKept_70 (by decide) ?_
            refine lv_iconst (v := 3) hx hb dL_isKept_71 (by decide) ?_
            refine ft_callB (X := (ftCB9 cI cS o0 Ao (u60.1.2.1 0) u60)) (Y := []) (X1 := fun (u72 : ftCdT) => (ftCB9 cI cS o0 Ao (u72.1.2.1 0) u72)) (ws1 := fun (u72 : ftCdT) => (ftCB9 cI cS o0 Ao (u72.1.2.1 0) u72)) (va_runV (C := RX10) (As := [.int (nI (ftKk w)), .int 0, .int 3]) (rest := []) ⟨hx, hb, hml, hown, hts⟩ (eo_compare l D cI cS H.size sK sV o0 Ao u60 (k + 1) (ftKeep w) (ftPush w z hm) (min (hm + 1) 5) to no (nI (ftKk w)) 0 3 (by omega) hO) (cwV 3 hts gL_isKept_X10_compare rfl rfl rfl (by decide +kernel) ⟨Nat.le_of_ble_eq_true rfl, Nat.le_of_ble_eq_true rfl⟩) (ft_preB (ci := 10) (ft_pmE _) hP hD hKK hSt hS hA rfl rfl) rfl rfl hl.1 rfl (lv_room (Nat.le_of_ble_eq_true rfl)) dL_isKept_72 ⟨Nat.le_of_ble_eq_true rfl, Nat.le_of_ble_eq_true rfl⟩) hP hD hS hA (ft_pmE _) (fun _ => (ft_pmE _).symm) (fun r72 u72 h72 H locs hP hD hS => ?_)
            have hP : va_P D vwCl (ftCB9 cI cS o0 Ao (u72.1.2.1 0) u72) H := hP
            have hD : va_D A (ftCB9 cI cS o0 Ao (u72.1.2.1 0) u72) := hD
            obtain ⟨hr72, hO⟩ := h72
            subst hr72
            refine ft_top (y := 0) (lxKp_self hWf (j := 3) (by omega)) ?_
            refine lv_if_ne (tgt := 94) hx hb dL_isKept_75 (by decide) (fun c75 => ?_) (fun c75 => ?_)
            · exact absurd rfl c75
            · refine lv_aload_n hx hb dL_isKept_78 rfl (lv_at hl 2 rfl) ?_
              refine lv_iload_n hx hb dL_isKept_79 rfl (lv_at hl 0 rfl) ?_
              refine lv_iconst (v := 0) hx hb dL_isKept_80 (by decide) ?_
              refine lv_iconst (v := 0) hx hb dL_isKept_81 (by decide) ?_
              refine ft_callB (X := (ftCB9 cI cS o0 Ao (u72.1.2.1 0) u72)) (Y := []) (X1 := fun (u82 : ftCdT) => (ftCB9 cI cS o0 Ao (u82.1.2.1 0) u82)) (ws1 := fun (u82 : ftCdT) => (ftCB9 cI cS o0 Ao (u82.1.2.1 0) u82)) (va_runV (C := RX10) (As := [.int (nI (ftKk w + 1)), .int 0, .int 0]) (rest := []) ⟨hx, hb, hml, hown, hts⟩ (eo_compare l D cI cS H.size sK sV o0 Ao u72 (k + 1) (ftKeep w) (ftPush w z hm) (min (hm + 1) 5) to no (nI (ftKk w + 1)) 0 0 (by omega) hO) (cwV 3 hts gL_isKept_X10_compare rfl rfl rfl (by decide +kernel) ⟨Nat.le_of_ble_eq_true rfl, Nat.le_of_ble_eq_true rfl⟩) (ft_preB (ci := 10) (ft_pmE _) hP hD hKK hSt hS hA rfl rfl) rfl rfl hl.1 rfl (lv_room (Nat.le_of_ble_eq_true rfl)) dL_isKept_82 ⟨Nat.le_of_ble_eq_true rfl, Nat.le_of_ble_eq_true rfl⟩) hP hD hS hA (ft_pmE _) (fun _ => (ft_pmE _).symm) (fun r82 u82 h82 H locs hP hD hS => ?_)
              have hP : va_P D vwCl (ftCB9 cI cS o0 Ao (u82.1.2.1 0) u82) H := hP
              have hD : va_D A (ftCB9 cI cS o0 Ao (u82.1.2.1 0) u82) := hD
              obtain ⟨hr82, hO⟩ := h82
              subst hr82
              refine ft_top (y := (-1000001)) (lxKp_out hWf) ?_
              refine lv_ldc (v := (-1000001)) hx hb hown (hts (.constant RL 82 (-1000001)) (by decide +kernel)) dL_isKept_85 ?_
              refine lv_icmp_ne (tgt := 94) hx hb dL_isKept_87 (by decide) (fun c87 => ?_) (fun c87 => ?_)
              · exact absurd (by decide) c87
              · refine lv_iconst (v := 1) hx hb dL_isKept_90 (by decide) ?_
                refine lv_goto (tgt := 95) hx hb dL_isKept_91 (by decide) ?_
                refine lv_istore (lv' := [(4, .int 1), (3, .int (nI (ftKk w + 1))), (2, .int (nI (ftCK w))), (0, .ref o0), (1, .int (nI C))]) hx hb dL_isKept_95 hl (by decide) rfl (fun ls hl => ?_)
                refine lv_iload_n hx hb dL_isKept_97 rfl (lv_at hl 4 rfl) ?_
                refine lv_aload_n hx hb dL_isKept_98 rfl (lv_at hl 3 rfl) ?_
                refine lv_bipush (v := 15) hx hb dL_isKept_99 (by decide) ?_
                refine ft_callB (X := (ftCB9 cI cS o0 Ao (u82.1.2.1 0) u82)) (Y := []) (X1 := fun (u101 : ftCdT) => (ftCB9 cI cS o0 Ao (u101.1.2.1 0) u101)) (ws1 := fun (u101 : ftCdT) => (ftCB9 cI cS o0 Ao (u101.1.2.1 0) u101)) (va_runV (C := RX10) (As := [.int 15]) (rest := [.int (nI C)]) ⟨hx, hb, hml, hown, hts⟩ (eo_count l D cI cS H.size sK sV o0 Ao u82 (k + 1) (ftKeep w) (ftPush w z hm) (min (hm + 1) 5) to no 15 (by omega) hO) (cwV 1 hts gL_isKept_X10_count rfl rfl rfl (by decide +kernel) ⟨Nat.le_of_ble_eq_true rfl, Nat.le_of_ble_eq_true rfl⟩) (ft_preB (ci := 10) (ft_pmE _) hP hD hKK hSt hS hA rfl rfl) rfl rfl hl.1 rfl (lv_room (Nat.le_of_ble_eq_true rfl)) dL_isKept_101 ⟨Nat.le_of_ble_eq_true rfl, Nat.le_of_ble_eq_true rfl⟩) hP hD hS hA (ft_pmE _) (fun _ => (ft_pmE _).symm) (fun r101 u101 h101 H locs hP hD hS => ?_)
                have hP : va_P D vwCl (ftCB9 cI cS o0 Ao (u101.1.2.1 0) u101) H := hP
                have hD : va_D A (ftCB9 cI cS o0 Ao (u101.1.2.1 0) u101) := hD
                obtain ⟨hr101, hO⟩ := h101
                subst hr101
                refine ft_top (y := nI (ftCL w + 60)) (lxCnt_15a.trans (by rw [lxKp_cl])) ?_
                refine lv_irem hx hb dL_isKept_104 (nI_ne0 (by omega) (by omega)) ?_
                refine ft_top (y := ftRemI (nI C) (nI (ftCL w + 60))) rfl ?_
                refine ft_top (y := nI (C % (ftCL w + 60))) (ft_remN (by omega) (by omega) (by omega)) ?_
                refine lv_istore (lv' := [(5, .int (nI (C % (ftCL w + 60)))), (4, .int 1), (3, .int (nI (ftKk w + 1))), (2, .int (nI (ftCK w))), (0, .ref o0), (1, .int (nI C))]) hx hb dL_isKept_105 hl (by decide) rfl (fun ls hl => ?_)
                obtain ⟨X, hX9⟩ : ∃ X, X = C % (ftCL w + 60) := ⟨_, rfl⟩
                rw [← hX9] at hl
                have hX : X < ftCL w + 60 := by rw [hX9]; exact Nat.mod_lt _ (by omega)
                refine lv_aload_n hx hb dL_isKept_107 rfl (lv_at hl 4 rfl) ?_
                refine lv_iload hx hb dL_isKept_108 (lv_at hl 0 rfl) ?_
                refine lv_iconst (v := 0) hx hb dL_isKept_110 (by decide) ?_
                refine ft_callB (X := (ftCB9 cI cS o0 Ao (u101.1.2.1 0) u101)) (Y := []) (X1 := fun (u111 : ftCdT) => (ftCB9 cI cS o0 Ao (u111.1.2.1 0) u111)) (ws1 := fun (u111 : ftCdT) => (ftCB9 cI cS o0 Ao (u111.1.2.1 0) u111)) (va_runV (C := RX10) (As := [.int (nI X), .int 0]) (rest := []) ⟨hx, hb, hml, hown, hts⟩ (eo_sample l D cI cS H.size sK sV o0 Ao u101 (k + 1) (ftKeep w) (ftPush w z hm) (min (hm + 1) 5) to no (nI X) 0 (by omega) hO) (cwV 2 hts gL_isKept_X10_sample rfl rfl rfl (by decide +kernel) ⟨Nat.le_of_ble_eq_true rfl, Nat.le_of_ble_eq_true rfl⟩) (ft_preB (ci := 10) (ft_pmE _) hP hD hKK hSt hS hA rfl rfl) rfl rfl hl.1 rfl (lv_room (Nat.le_of_ble_eq_true rfl)) dL_isKept_111 ⟨Nat.le_of_ble_eq_true rfl, Nat.le_of_ble_eq_true rfl⟩) hP hD hS hA (ft_pmE _) (fun _ => (ft_pmE _).symm) (fun r111 u111 h111 H locs hP hD hS => ?_)
                have hP : va_P D vwCl (ftCB9 cI cS o0 Ao (u111.1.2.1 0) u111) H := hP
                have hD : va_D A (ftCB9 cI cS o0 Ao (u111.1.2.1 0) u111) := hD
                obtain ⟨hr111, hO⟩ := h111
                subst hr111
                refine ft_top (y := ftCV w X) ((lxSm (by rw [lxKp_cl]; exact hX) (by rw [lxKp_cl]; exact hln)).trans (lxKp_cv hWf X)) ?_
                refine lv_istore (lv' := [(6, .int (ftCV w X)), (5, .int (nI X)), (4, .int 1), (3, .int (nI (ftKk w + 1))), (2, .int (nI (ftCK w))), (0, .ref o0), (1, .int (nI C))]) hx hb dL_isKept_114 hl (by decide) rfl (fun ls hl => ?_)
                refine lv_aload_n hx hb dL_isKept_116 rfl (lv_at hl 5 rfl) ?_
                refine lv_iconst (v := 3) hx hb dL_isKept_117 (by decide) ?_
                refine ft_callB (X := (ftCB9 cI cS o0 Ao (u111.1.2.1 0) u111)) (Y := []) (X1 := fun (u118 : ftCdT) => (ftCB9 cI cS o0 Ao (u118.1.2.1 0) u118)) (ws1 := fun (u118 : ftCdT) => (ftCB9 cI cS o0 Ao (u118.1.2.1 0) u118)) (va_runV (C := RX10) (As := [.int 3]) (rest := []) ⟨hx, hb, hml, hown, hts⟩ (eo_count l D cI cS H.size sK sV o0 Ao u111 (k + 1) (ftKeep w) (ftPush w z hm) (min (hm + 1) 5) to no 3 (by omega) hO) (cwV 1 hts gL_isKept_X10_count rfl rfl rfl (by decide +kernel) ⟨Nat.le_of_ble_eq_true rfl, Nat.le_of_ble_eq_true rfl⟩) (ft_preB (ci := 10) (ft_pmE _) hP hD hKK hSt hS hA rfl rfl) rfl rfl hl.1 rfl (lv_room (Nat.le_of_ble_eq_true rfl)) dL_isKept_118 ⟨Nat.le_of_ble_eq_true rfl, Nat.le_of_ble_eq_true rfl⟩) hP hD hS hA (ft_pmE _) (fun _ => (ft_pmE _).symm) (fun r118 u118 h118 H locs hP hD hS => ?_)
                have hP : va_P D vwCl (ftCB9 cI cS o0 Ao (u118.1.2.1 0) u118) H := hP
                have hD : va_D A (ftCB9 cI cS o0 Ao (u118.1.2.1 0) u118) := hD
                obtain ⟨hr118, hO⟩ := h118
                subst hr118
                refine ft_top (y := 0) (lxCnt_3.trans ((ftKeep_lo (by omega)).trans h0)) ?_
                refine lv_istore (lv' := [(7, .int 0), (6, .int (ftCV w X)), (5, .int (nI X)), (4, .int 1), (3, .int (nI (ftKk w + 1))), (2, .int (nI (ftCK w))), (0, .ref o0), (1, .int (nI C))]) hx hb dL_isKept_121 hl (by decide) rfl (fun ls hl => ?_)
                refine lv_iload hx hb dL_isKept_123 (lv_at hl 3 rfl) ?_
                refine lv_if_eq (tgt := 153) hx hb dL_isKept_125 (by decide) (fun c125 => ?_) (fun c125 => ?_)
                · exact absurd c125 (by decide)
                · refine lv_aload_n hx hb dL_isKept_128 rfl (lv_at hl 6 rfl) ?_
                  refine lv_iconst (v := 3) hx hb dL_isKept_129 (by decide) ?_
                  refine lv_iload hx hb dL_isKept_130 (lv_at hl 0 rfl) ?_
                  refine lv_if_ne (tgt := 140) hx hb dL_isKept_132 (by decide) (fun c132 => ?_) (fun c132 => ?_)
                  · exact absurd rfl c132
                  · refine lv_bipush (v := 100) hx hb dL_isKept_135 (by decide) ?_
                    refine lv_goto (tgt := 141) hx hb dL_isKept_137 (by decide) ?_
                    refine ft_callB (X := (ftCB9 cI cS o0 Ao (u118.1.2.1 0) u118)) (Y := []) (X1 := fun (u141 : ftCdT) => (ftCB9 cI cS o0 Ao (u141.1.2.1 0) u141)) (ws1 := fun (u141 : ftCdT) => (ftCB9 cI cS o0 Ao (u141.1.2.1 0) u141)) (va_runV (C := RX10) (As := [.int 3, .int 100]) (rest := []) ⟨hx, hb, hml, hown, hts⟩ (eo_set l D cI cS H.size sK sV o0 Ao u118 (k + 1) (ftKeep w) (ftPush w z hm) (min (hm + 1) 5) to no 3 100 (by omega) hO ⟨⟨by decide, by decide⟩, by decide, by decide⟩) (cwV 2 hts gL_isKept_X10_set rfl rfl rfl (by decide +kernel) ⟨Nat.le_of_ble_eq_true rfl, Nat.le_of_ble_eq_true rfl⟩) (ft_preB (ci := 10) (ft_pmE _) hP hD hKK hSt hS hA rfl rfl) rfl rfl hl.1 rfl (lv_room (Nat.le_of_ble_eq_true rfl)) dL_isKept_141 ⟨Nat.le_of_ble_eq_true rfl, Nat.le_of_ble_eq_true rfl⟩) hP hD hS hA (ft_pmE _) (fun _ => (ft_pmE _).symm) (fun r141 u141 h141 H locs hP hD hS => ?_)
                    have hP : va_P D vwCl (ftCB9 cI cS o0 Ao (u141.1.2.1 0) u141) H := hP
                    have hD : va_D A (ftCB9 cI cS o0 Ao (u141.1.2.1 0) u141) := hD
                    obtain ⟨hr141, hO⟩ := h141
                    subst hr141
                    refine ft_top (y := 0) ((ftKeep_lo (by decide)).trans h0) ?_
                    obtain ⟨v9, hv9⟩ : ∃ v9, v9 = upd (ftKeep w) (44 + 3) 100 := ⟨_, rfl⟩
                    have hO : lxO (k + 1) u141 v9 (ftPush (ftKeep w) (ftPush w z hm) (min (hm + 1) 5)) (min ((min (hm + 1) 5) + 1) 5) to no := by rw [hv9]; exact hO
                    have hWv := lxO_W hO
                    obtain ⟨e47, e56, h559, hcl9⟩ := lxKv_row hWf hv9
                    obtain ⟨G, b9, hG1, hb9, hall, hGb, hGm, hg2, hg3⟩ := lxKv_3n hWf hWv e47 e56 h0
                    refine lv_iload hx hb dL_isKept_144 (lv_at hl 0 rfl) ?_
                    refine lv_icmp_ne (tgt := 153) hx hb dL_isKept_146 (by decide) (fun c146 => ?_) (fun c146 => ?_)
                    · exact absurd (by decide) c146
                    · refine lv_iconst (v := 1) hx hb dL_isKept_149 (by decide) ?_
                      refine lv_goto (tgt := 154) hx hb dL_isKept_150 (by decide) ?_
                      refine lv_istore (lv' := [(4, .int 1), (7, .int 0), (6, .int (ftCV w X)), (5, .int (nI X)), (3, .int (nI (ftKk w + 1))), (2, .int (nI (ftCK w))), (0, .ref o0), (1, .int (nI C))]) hx hb dL_isKept_154 hl (by decide) rfl (fun ls hl => ?_)
                      refine lv_aload_n hx hb dL_isKept_156 rfl (lv_at hl 6 rfl) ?_
                      refine lv_iload hx hb dL_isKept_157 (lv_at hl 3 rfl) ?_
                      refine lv_iconst (v := 0) hx hb dL_isKept_159 (by decide) ?_
                      refine ft_callB (X := (ftCB9 cI cS o0 Ao (u141.1.2.1 0) u141)) (Y := []) (X1 := fun (u160 : ftCdT) => (ftCB9 cI cS o0 Ao (u160.1.2.1 0) u160)) (ws1 := fun (u160 : ftCdT) => (ftCB9 cI cS o0 Ao (u160.1.2.1 0) u160)) (va_runV (C := RX10) (As := [.int (nI X), .int 0]) (rest := []) ⟨hx, hb, hml, hown, hts⟩ (eo_sample l D cI cS H.size sK sV o0 Ao u141 (k + 1) v9 (ftPush (ftKeep w) (ftPush w z hm) (min (hm + 1) 5)) (min ((min (hm + 1) 5) + 1) 5) to no (nI X) 0 (by omega) hO) (cwV 2 hts gL_isKept_X10_sample rfl rfl rfl (by decide +kernel) ⟨Nat.le_of_ble_eq_true rfl, Nat.le_of_ble_eq_true rfl⟩) (ft_preB (ci := 10) (ft_pmE _) hP hD hKK hSt hS hA rfl rfl) rfl rfl hl.1 rfl (lv_room (Nat.le_of_ble_eq_true rfl)) dL_isKept_160 ⟨Nat.le_of_ble_eq_true rfl, Nat.le_of_ble_eq_true rfl⟩) hP hD hS hA (ft_pmE _) (fun _ => (ft_pmE _).symm) (fun r160 u160 h160 H locs hP hD hS => ?_)
                      have hP : va_P D vwCl (ftCB9 cI cS o0 Ao (u160.1.2.1 0) u160) H := hP
                      have hD : va_D A (ftCB9 cI cS o0 Ao (u160.1.2.1 0) u160) := hD
                      obtain ⟨hr160, hO⟩ := h160
                      subst hr160
                      refine ft_top (y := ftCV v9 X) (lxSm (by rw [hcl9]; exact hX) (by rw [hcl9]; exact hln)) ?_
                      refine lv_iload hx hb dL_isKept_163 (lv_at hl 2 rfl) ?_
                      refine lv_isub hx hb dL_isKept_165 ?_
                      refine lv_istore (lv' := [(8, .int ((ftCV v9 X) - (ftCV w X))), (4, .int 1), (7, .int 0), (6, .int (ftCV w X)), (5, .int (nI X)), (3, .int (nI (ftKk w + 1))), (2, .int (nI (ftCK w))), (0, .ref o0), (1, .int (nI C))]) hx hb dL_isKept_166 hl (by decide) rfl (fun ls hl => ?_)
                      have jn181 : ∀ (H : Heap) (locs : List Loc), va_P D vwCl (ftCB9 cI cS o0 Ao (u160.1.2.1 0) u160) H → va_D A (ftCB9 cI cS o0 Ao (u160.1.2.1 0) u160) → va_S A s.heap H locs → ∀ ls : Array Slot, lv_has ls 14 [(8, .int ((ftCV v9 X) - (ftCV w X))), (4, .int 1), (7, .int 0), (6, .int (ftCV w X)), (5, .int (nI X)), (3, .int (nI (ftKk w + 1))), (2, .int (nI (ftCK w))), (0, .ref o0), (1, .int (nI C))] → W p l e (headSpec wsL_isKept { frames := 7, cells := 0, slots := 0, locals := 173 }).room s m ([.ref o0, .int (nI C)] : List Value).toArray below meth c H locs 0 0 (MQ below (ftXi D (ftCB9 cI cS o0 Ao (co.1.2.1 0) co) s.heap.size (fun (o9 : Int32) (u : ftCdT) => o9 = 1 ∧ (∃ z9 h9, lxO (k + 1) u (ftKeep w) z9 h9 to no)) (fun (u : ftCdT) => (ftCB9 cI cS o0 Ao (u.1.2.1 0) u))) ([.ref o0, .int (nI C)] : List Value).toArray s 0 0 A) (F0 m 181 ls [.int (lxDf w v9 X)]) := by
                        intro   H locs hP hD hS ls hl
                        refine lv_istore (lv' := [(8, .int (lxDf w v9 X)), (4, .int 1), (7, .int 0), (6, .int (ftCV w X)), (5, .int (nI X)), (3, .int (nI (ftKk w + 1))), (2, .int (nI (ftCK w))), (0, .ref o0), (1, .int (nI C))]) hx hb dL_isKept_181 hl (by decide) rfl (fun ls hl => ?_)
                        refine lv_aload_n hx hb dL_isKept_183 rfl (lv_at hl 7 rfl) ?_
                        refine lv_iload_n hx hb dL_isKept_184 rfl (lv_at hl 5 rfl) ?_
                        refine lv_iconst (v := 1) hx hb dL_isKept_185 (by decide) ?_
                        refine lv_isub hx hb dL_isKept_186 ?_
                        refine ft_top (y := nI (ftKk w)) (ft_subN (a := ftKk w + 1) (b := 1) (by omega)) ?_
                        refine lv_iconst (v := 0) hx hb dL_isKept_187 (by decide) ?_
                        refine lv_iconst (v := 2) hx hb dL_isKept_188 (by decide) ?_
                        refine ft_callB (X := (ftCB9 cI cS o0 Ao (u160.1.2.1 0) u160)) (Y := []) (X1 := fun (u189 : ftCdT) => (ftCB9 cI cS o0 Ao (u189.1.2.1 0) u189)) (ws1 := fun (u189 : ftCdT) => (ftCB9 cI cS o0 Ao (u189.1.2.1 0) u189)) (va_runV (C := RX10) (As := [.int (nI (ftKk w)), .int 0, .int 2]) (rest := []) ⟨hx, hb, hml, hown, hts⟩ (eo_compare l D cI cS H.size sK sV o0 Ao u160 (k + 1) v9 (ftPush (ftKeep w) (ftPush w z hm) (min (hm + 1) 5)) (min ((min (hm + 1) 5) + 1) 5) to no (nI (ftKk w)) 0 2 (by omega) hO) (cwV 3 hts gL_isKept_X10_compare rfl rfl rfl (by decide +kernel) ⟨Nat.le_of_ble_eq_true rfl, Nat.le_of_ble_eq_true rfl⟩) (ft_preB (ci := 10) (ft_pmE _) hP hD hKK hSt hS hA rfl rfl) rfl rfl hl.1 rfl (lv_room (Nat.le_of_ble_eq_true rfl)) dL_isKept_189 ⟨Nat.le_of_ble_eq_true rfl, Nat.le_of_ble_eq_true rfl⟩) hP hD hS hA (ft_pmE _) (fun _ => (ft_pmE _).symm) (fun r189 u189 h189 H locs hP hD hS => ?_)
                        have hP : va_P D vwCl (ftCB9 cI cS o0 Ao (u189.1.2.1 0) u189) H := hP
                        have hD : va_D A (ftCB9 cI cS o0 Ao (u189.1.2.1 0) u189) := hD
                        obtain ⟨hr189, hO⟩ := h189
                        subst hr189
                        refine ft_top (y := nI G) ((lx_cmA h559 hK3 ⟨by decide, by decide⟩ (j := 2) (by omega)).trans hg2) ?_
                        refine lv_istore (lv' := [(9, .int (nI G)), (8, .int (lxDf w v9 X)), (4, .int 1), (7, .int 0), (6, .int (ftCV w X)), (5, .int (nI X)), (3, .int (nI (ftKk w + 1))), (2, .int (nI (ftCK w))), (0, .ref o0), (1, .int (nI C))]) hx hb dL_isKept_192 hl (by decide) rfl (fun ls hl => ?_)
                        refine lv_aload_n hx hb dL_isKept_194 rfl (lv_at hl 8 rfl) ?_
                        refine lv_iload_n hx hb dL_isKept_195 rfl (lv_at hl 6 rfl) ?_
                        refine lv_iconst (v := 1) hx hb dL_isKept_196 (by decide) ?_
                        refine lv_isub hx hb dL_isKept_197 ?_
                        refine ft_top (y := nI (ftKk w)) (ft_subN (a := ftKk w + 1) (b := 1) (by omega)) ?_
                        refine lv_iconst (v := 0) hx hb dL_isKept_198 (by decide) ?_
                        refine lv_iconst (v := 3) hx hb dL_isKept_199 (by decide) ?_
                        refine ft_callB (X := (ftCB9 cI cS o0 Ao (u189.1.2.1 0) u189)) (Y := []) (X1 := fun (u200 : ftCdT) => (ftCB9 cI cS o0 Ao (u200.1.2.1 0) u200)) (ws1 := fun (u200 : ftCdT) => (ftCB9 cI cS o0 Ao (u200.1.2.1 0) u200)) (va_runV (C := RX10) (As := [.int (nI (ftKk w)), .int 0, .int 3]) (rest := []) ⟨hx, hb, hml, hown, hts⟩ (eo_compare l D cI cS H.size sK sV o0 Ao u189 (k + 1) v9 (ftPush (ftKeep w) (ftPush w z hm) (min (hm + 1) 5)) (min ((min (hm + 1) 5) + 1) 5) to no (nI (ftKk w)) 0 3 (by omega) hO) (cwV 3 hts gL_isKept_X10_compare rfl rfl rfl (by decide +kernel) ⟨Nat.le_of_ble_eq_true rfl, Nat.le_of_ble_eq_true rfl⟩) (ft_preB (ci := 10) (ft_pmE _) hP hD hKK hSt hS hA rfl rfl) rfl rfl hl.1 rfl (lv_room (Nat.le_of_ble_eq_true rfl)) dL_isKept_200 ⟨Nat.le_of_ble_eq_true rfl, Nat.le_of_ble_eq_true rfl⟩) hP hD hS hA (ft_pmE _) (fun _ => (ft_pmE _).symm) (fun r200 u200 h200 H locs hP hD hS => ?_)
                        have hP : va_P D vwCl (ftCB9 cI cS o0 Ao (u200.1.2.1 0) u200) H := hP
                        have hD : va_D A (ftCB9 cI cS o0 Ao (u200.1.2.1 0) u200) := hD
                        obtain ⟨hr200, hO⟩ := h200
                        subst hr200
                        refine ft_top (y := nI b9) ((lx_cmA h559 hK3 ⟨by decide, by decide⟩ (j := 3) (by omega)).trans hg3) ?_
                        refine lv_istore (lv' := [(10, .int (nI b9)), (9, .int (nI G)), (8, .int (lxDf w v9 X)), (4, .int 1), (7, .int 0), (6, .int (ftCV w X)), (5, .int (nI X)), (3, .int (nI (ftKk w + 1))), (2, .int (nI (ftCK w))), (0, .ref o0), (1, .int (nI C))]) hx hb dL_isKept_203 hl (by decide) rfl (fun ls hl => ?_)
                        refine lv_iconst (v := 0) hx hb dL_isKept_205 (by decide) ?_
                        refine lv_istore (lv' := [(11, .int 0), (10, .int (nI b9)), (9, .int (nI G)), (8, .int (lxDf w v9 X)), (4, .int 1), (7, .int 0), (6, .int (ftCV w X)), (5, .int (nI X)), (3, .int (nI (ftKk w + 1))), (2, .int (nI (ftCK w))), (0, .ref o0), (1, .int (nI C))]) hx hb dL_isKept_206 hl (by decide) rfl (fun ls hl => ?_)
                        refine lv_iload_n hx hb dL_isKept_208 rfl (lv_at hl 11 rfl) ?_
                        refine lv_iconst (v := 5) hx hb dL_isKept_209 (by decide) ?_
                        refine lv_ishr hx hb dL_isKept_210 ?_
                        refine ft_top (y := nI (C / 32)) (pk_shrN hC _ 5 (by decide)) ?_
                        refine lv_bipush (v := 30) hx hb dL_isKept_211 (by decide) ?_
                        refine lv_irem hx hb dL_isKept_213 (by decide) ?_
                        refine ft_top (y := ftRemI (nI (C / 32)) 30) rfl ?_
                        refine ft_top (y := nI (C / 32 % 30)) (ft_remN (b := 30) (by omega) (by omega) (by omega)) ?_
                        refine lv_istore (lv' := [(12, .int (nI (C / 32 % 30))), (11, .int 0), (10, .int (nI b9)), (9, .int (nI G)), (8, .int (lxDf w v9 X)), (4, .int 1), (7, .int 0), (6, .int (ftCV w X)), (5, .int (nI X)), (3, .int (nI (ftKk w + 1))), (2, .int (nI (ftCK w))), (0, .ref o0), (1, .int (nI C))]) hx hb dL_isKept_214 hl (by decide) rfl (fun ls hl => ?_)
                        obtain ⟨l9, hl9⟩ : ∃ l9, l9 = C / 32 % 30 := ⟨_, rfl⟩
                        rw [← hl9] at hl
                        have hl30 : l9 < 30 := by omega
                        have hlim := lxKv_lim hWf e47 e56 (li := nI l9) hb9 hall hGb
                        refine lv_iload hx hb dL_isKept_216 (lv_at hl 5 rfl) ?_
                        refine lv_if_eq (tgt := 282) hx hb dL_isKept_218 (by decide) (fun c218 => ?_) (fun c218 => ?_)
                        · exact absurd c218 (by decide)
                        · refine lv_iload hx hb dL_isKept_221 (lv_at hl 3 rfl) ?_
                          refine lv_iload hx hb dL_isKept_223 (lv_at hl 4 rfl) ?_
                          refine lv_icmp_lt (tgt := 282) hx hb dL_isKept_225 (by decide) (fun c225 => ?_) (fun c225 => ?_)
                          · exact absurd c225 (Int32.not_lt.mpr (hall X hX))
                          · refine lv_aload_n hx hb dL_isKept_228 rfl (lv_at hl 11 rfl) ?_
                            refine lv_iload_n hx hb dL_isKept_229 rfl (lv_at hl 9 rfl) ?_
                            refine lv_iconst (v := 1) hx hb dL_isKept_230 (by decide) ?_
                            refine lv_isub hx hb dL_isKept_231 ?_
                            refine ft_top (y := nI (ftKk w)) (ft_subN (a := ftKk w + 1) (b := 1) (by omega)) ?_
                            refine lv_iload hx hb dL_isKept_232 (lv_at hl 3 rfl) ?_
                            refine lv_iconst (v := 0) hx hb dL_isKept_234 (by decide) ?_
                            refine ft_callB (X := (ftCB9 cI cS o0 Ao (u200.1.2.1 0) u200)) (Y := []) (X1 := fun (u235 : ftCdT) => (ftCB9 cI cS o0 Ao (u235.1.2.1 0) u235)) (ws1 := fun (u235 : ftCdT) => (ftCB9 cI cS o0 Ao (u235.1.2.1 0) u235)) (va_runV (C := RX10) (As := [.int (nI (ftKk w)), .int (nI G), .int 0]) (rest := []) ⟨hx, hb, hml, hown, hts⟩ (eo_compare l D cI cS H.size sK sV o0 Ao u200 (k + 1) v9 (ftPush (ftKeep w) (ftPush w z hm) (min (hm + 1) 5)) (min ((min (hm + 1) 5) + 1) 5) to no (nI (ftKk w)) (nI G) 0 (by omega) hO) (cwV 3 hts gL_isKept_X10_compare rfl rfl rfl (by decide +kernel) ⟨Nat.le_of_ble_eq_true rfl, Nat.le_of_ble_eq_true rfl⟩) (ft_preB (ci := 10) (ft_pmE _) hP hD hKK hSt hS hA rfl rfl) rfl rfl hl.1 rfl (lv_room (Nat.le_of_ble_eq_true rfl)) dL_isKept_235 ⟨Nat.le_of_ble_eq_true rfl, Nat.le_of_ble_eq_true rfl⟩) hP hD hS hA (ft_pmE _) (fun _ => (ft_pmE _).symm) (fun r235 u235 h235 H locs hP hD hS => ?_)
                            have hP : va_P D vwCl (ftCB9 cI cS o0 Ao (u235.1.2.1 0) u235) H := hP
                            have hD : va_D A (ftCB9 cI cS o0 Ao (u235.1.2.1 0) u235) := hD
                            obtain ⟨hr235, hO⟩ := h235
                            subst hr235
                            refine ft_top (y := (-1000004)) ((lx_cmA h559 hK3 (lx_li (by omega)) (j := 0) (by omega)).trans (lxKv_none hWf e47 e56 hall (Int32.le_refl _)).1) ?_
                            refine lv_ldc (v := (-1000004)) hx hb hown (hts (.constant RL 70 (-1000004)) (by decide +kernel)) dL_isKept_238 ?_
                            refine lv_icmp_ne (tgt := 282) hx hb dL_isKept_240 (by decide) (fun c240 => ?_) (fun c240 => ?_)
                            · exact absurd (by decide) c240
                            · refine lv_aload_n hx hb dL_isKept_243 rfl (lv_at hl 11 rfl) ?_
                              refine lv_iload_n hx hb dL_isKept_244 rfl (lv_at hl 9 rfl) ?_
                              refine lv_iconst (v := 1) hx hb dL_isKept_245 (by decide) ?_
                              refine lv_isub hx hb dL_isKept_246 ?_
                              refine ft_top (y := nI (ftKk w)) (ft_subN (a := ftKk w + 1) (b := 1) (by omega)) ?_
                              refine lv_iload hx hb dL_isKept_247 (lv_at hl 3 rfl) ?_
                              refine lv_iconst (v := 1) hx hb dL_isKept_249 (by decide) ?_
                              refine ft_callB (X := (ftCB9 cI cS o0 Ao (u235.1.2.1 0) u235)) (Y := []) (X1 := fun (u250 : ftCdT) => (ftCB9 cI cS o0 Ao (u250.1.2.1 0) u250)) (ws1 := fun (u250 : ftCdT) => (ftCB9 cI cS o0 Ao (u250.1.2.1 0) u250)) (va_runV (C := RX10) (As := [.int (nI (ftKk w)), .int (nI G), .int 1]) (rest := []) ⟨hx, hb, hml, hown, hts⟩ (eo_compare l D cI cS H.size sK sV o0 Ao u235 (k + 1) v9 (ftPush (ftKeep w) (ftPush w z hm) (min (hm + 1) 5)) (min ((min (hm + 1) 5) + 1) 5) to no (nI (ftKk w)) (nI G) 1 (by omega) hO) (cwV 3 hts gL_isKept_X10_compare rfl rfl rfl (by decide +kernel) ⟨Nat.le_of_ble_eq_true rfl, Nat.le_of_ble_eq_true rfl⟩) (ft_preB (ci := 10) (ft_pmE _) hP hD hKK hSt hS hA rfl rfl) rfl rfl hl.1 rfl (lv_room (Nat.le_of_ble_eq_true rfl)) dL_isKept_250 ⟨Nat.le_of_ble_eq_true rfl, Nat.le_of_ble_eq_true rfl⟩) hP hD hS hA (ft_pmE _) (fun _ => (ft_pmE _).symm) (fun r250 u250 h250 H locs hP hD hS => ?_)
                              have hP : va_P D vwCl (ftCB9 cI cS o0 Ao (u250.1.2.1 0) u250) H := hP
                              have hD : va_D A (ftCB9 cI cS o0 Ao (u250.1.2.1 0) u250) := hD
                              obtain ⟨hr250, hO⟩ := h250
                              subst hr250
                              refine ft_top (y := 0) ((lx_cmA h559 hK3 (lx_li (by omega)) (j := 1) (by omega)).trans (lxKv_none hWf e47 e56 hall (Int32.le_refl _)).2) ?_
                              refine lv_if_ne (tgt := 282) hx hb dL_isKept_253 (by decide) (fun c253 => ?_) (fun c253 => ?_)
                              · exact absurd rfl c253
                              · have jn278 : ∀ (co9 : ftCdT), (lxO (k + 1) co9 v9 (ftPush (ftKeep w) (ftPush w z hm) (min (hm + 1) 5)) (min (min (hm + 1) 5 + 1) 5) to no) → ∀ (H : Heap) (locs : List Loc), va_P D vwCl (ftCB9 cI cS o0 Ao (co9.1.2.1 0) co9) H → va_D A (ftCB9 cI cS o0 Ao (co9.1.2.1 0) co9) → va_S A s.heap H locs → ∀ ls : Array Slot, lv_has ls 14 [(12, .int (nI l9)), (11, .int 0), (10, .int (nI b9)), (9, .int (nI G)), (8, .int (lxDf w v9 X)), (4, .int 1), (7, .int 0), (6, .int (ftCV w X)), (5, .int (nI X)), (3, .int (nI (ftKk w + 1))), (2, .int (nI (ftCK w))), (0, .ref o0), (1, .int (nI C))] → W p l e (headSpec wsL_isKept { frames := 7, cells := 0, slots := 0, locals := 173 }).room s m ([.ref o0, .int (nI C)] : List Value).toArray below meth c H locs 0 0 (MQ below (ftXi D (ftCB9 cI cS o0 Ao (co.1.2.1 0) co) s.heap.size (fun (o9 : Int32) (u : ftCdT) => o9 = 1 ∧ (∃ z9 h9, lxO (k + 1) u (ftKeep w) z9 h9 to no)) (fun (u : ftCdT) => (ftCB9 cI cS o0 Ao (u.1.2.1 0) u))) ([.ref o0, .int (nI C)] : List Value).toArray s 0 0 A) (F0 m 278 ls []) := by
                                  intro co9 hO H locs hP hD hS ls hl
                                  refine lv_iconst (v := 1) hx hb dL_isKept_278 (by decide) ?_
                                  refine lv_goto (tgt := 283) hx hb dL_isKept_279 (by decide) ?_
                                  refine lv_istore (lv' := [(4, .int 1), (12, .int (nI l9)), (11, .int 0), (10, .int (nI b9)), (9, .int (nI G)), (8, .int (lxDf w v9 X)), (7, .int 0), (6, .int (ftCV w X)), (5, .int (nI X)), (3, .int (nI (ftKk w + 1))), (2, .int (nI (ftCK w))), (0, .ref o0), (1, .int (nI C))]) hx hb dL_isKept_283 hl (by decide) rfl (fun ls hl => ?_)
                                  rcases Classical.em (nI G ≤ nI l9) with hgl | hgl
                                  · refine lv_aload_n hx hb dL_isKept_285 rfl (lv_at hl 11 rfl) ?_
                                    refine lv_iload_n hx hb dL_isKept_286 rfl (lv_at hl 9 rfl) ?_
                                    refine lv_iconst (v := 1) hx hb dL_isKept_287 (by decide) ?_
                                    refine lv_isub hx hb dL_isKept_288 ?_
                                    refine ft_top (y := nI (ftKk w)) (ft_subN (a := ftKk w + 1) (b := 1) (by omega)) ?_
                                    refine lv_iload hx hb dL_isKept_289 (lv_at hl 1 rfl) ?_
                                    refine lv_iconst (v := 0) hx hb dL_isKept_291 (by decide) ?_
                                    refine ft_callB (X := (ftCB9 cI cS o0 Ao (co9.1.2.1 0) co9)) (Y := []) (X1 := fun (u292 : ftCdT) => (ftCB9 cI cS o0 Ao (u292.1.2.1 0) u292)) (ws1 := fun (u292 : ftCdT) => (ftCB9 cI cS o0 Ao (u292.1.2.1 0) u292)) (va_runV (C := RX10) (As := [.int (nI (ftKk w)), .int (nI l9), .int 0]) (rest := []) ⟨hx, hb, hml, hown, hts⟩ (eo_compare l D cI cS H.size sK sV o0 Ao co9 (k + 1) v9 (ftPush (ftKeep w) (ftPush w z hm) (min (hm + 1) 5)) (min (min (hm + 1) 5 + 1) 5) to no (nI (ftKk w)) (nI l9) 0 (by omega) hO) (cwV 3 hts gL_isKept_X10_compare rfl rfl rfl (by decide +kernel) ⟨Nat.le_of_ble_eq_true rfl, Nat.le_of_ble_eq_true rfl⟩) (ft_preB (ci := 10) (ft_pmE _) hP hD hKK hSt hS hA rfl rfl) rfl rfl hl.1 rfl (lv_room (Nat.le_of_ble_eq_true rfl)) dL_isKept_292 ⟨Nat.le_of_ble_eq_true rfl, Nat.le_of_ble_eq_true rfl⟩) hP hD hS hA (ft_pmE _) (fun _ => (ft_pmE _).symm) (fun r292 u292 h292 H locs hP hD hS => ?_)
                                    have hP : va_P D vwCl (ftCB9 cI cS o0 Ao (u292.1.2.1 0) u292) H := hP
                                    have hD : va_D A (ftCB9 cI cS o0 Ao (u292.1.2.1 0) u292) := hD
                                    obtain ⟨hr292, hO⟩ := h292
                                    subst hr292
                                    refine ft_top (y := (-1000004)) ((lx_cmA h559 hK3 (lx_li (by omega)) (j := 0) (by omega)).trans (hlim.1 hgl).1) ?_
                                    refine lv_istore (lv' := [(13, .int (-1000004)), (4, .int 1), (12, .int (nI l9)), (11, .int 0), (10, .int (nI b9)), (9, .int (nI G)), (8, .int (lxDf w v9 X)), (7, .int 0), (6, .int (ftCV w X)), (5, .int (nI X)), (3, .int (nI (ftKk w + 1))), (2, .int (nI (ftCK w))), (0, .ref o0), (1, .int (nI C))]) hx hb dL_isKept_295 hl (by decide) rfl (fun ls hl => ?_)
                                    refine lv_aload_n hx hb dL_isKept_297 rfl (lv_at hl 12 rfl) ?_
                                    refine lv_iload_n hx hb dL_isKept_298 rfl (lv_at hl 10 rfl) ?_
                                    refine lv_iconst (v := 1) hx hb dL_isKept_299 (by decide) ?_
                                    refine lv_isub hx hb dL_isKept_300 ?_
                                    refine ft_top (y := nI (ftKk w)) (ft_subN (a := ftKk w + 1) (b := 1) (by omega)) ?_
                                    refine lv_iload hx hb dL_isKept_301 (lv_at hl 2 rfl) ?_
                                    refine lv_iconst (v := 1) hx hb dL_isKept_303 (by decide) ?_
                                    refine ft_callB (X := (ftCB9 cI cS o0 Ao (u292.1.2.1 0) u292)) (Y := []) (X1 := fun (u304 : ftCdT) => (ftCB9 cI cS o0 Ao (u304.1.2.1 0) u304)) (ws1 := fun (u304 : ftCdT) => (ftCB9 cI cS o0 Ao (u304.1.2.1 0) u304)) (va_runV (C := RX10) (As := [.int (nI (ftKk w)), .int (nI l9), .int 1]) (rest := []) ⟨hx, hb, hml, hown, hts⟩ (eo_compare l D cI cS H.size sK sV o0 Ao u292 (k + 1) v9 (ftPush (ftKeep w) (ftPush w z hm) (min (hm + 1) 5)) (min (min (hm + 1) 5 + 1) 5) to no (nI (ftKk w)) (nI l9) 1 (by omega) hO) (cwV 3 hts gL_isKept_X10_compare rfl rfl rfl (by decide +kernel) ⟨Nat.le_of_ble_eq_true rfl, Nat.le_of_ble_eq_true rfl⟩) (ft_preB (ci := 10) (ft_pmE _) hP hD hKK hSt hS hA rfl rfl) rfl rfl hl.1 rfl (lv_room (Nat.le_of_ble_eq_true rfl)) dL_isKept_304 ⟨Nat.le_of_ble_eq_true rfl, Nat.le_of_ble_eq_true rfl⟩) hP hD hS hA (ft_pmE _) (fun _ => (ft_pmE _).symm) (fun r304 u304 h304 H locs hP hD hS => ?_)
                                    have hP : va_P D vwCl (ftCB9 cI cS o0 Ao (u304.1.2.1 0) u304) H := hP
                                    have hD : va_D A (ftCB9 cI cS o0 Ao (u304.1.2.1 0) u304) := hD
                                    obtain ⟨hr304, hO⟩ := h304
                                    subst hr304
                                    refine ft_top (y := 0) ((lx_cmA h559 hK3 (lx_li (by omega)) (j := 1) (by omega)).trans (hlim.1 hgl).2) ?_
                                    refine lv_istore (lv' := [(11, .int 0), (13, .int (-1000004)), (4, .int 1), (12, .int (nI l9)), (10, .int (nI b9)), (9, .int (nI G)), (8, .int (lxDf w v9 X)), (7, .int 0), (6, .int (ftCV w X)), (5, .int (nI X)), (3, .int (nI (ftKk w + 1))), (2, .int (nI (ftCK w))), (0, .ref o0), (1, .int (nI C))]) hx hb dL_isKept_307 hl (by decide) rfl (fun ls hl => ?_)
                                    refine lv_iload hx hb dL_isKept_309 (lv_at hl 2 rfl) ?_
                                    refine lv_if_eq (tgt := 389) hx hb dL_isKept_311 (by decide) (fun c311 => ?_) (fun c311 => ?_)
                                    · exact absurd c311 (by decide)
                                    · refine lv_iload hx hb dL_isKept_314 (lv_at hl 1 rfl) ?_
                                      refine lv_if_ge (tgt := 323) hx hb dL_isKept_316 (by decide) (fun c316 => ?_) (fun c316 => ?_)
                                      · exact absurd c316 (by decide)
                                      · refine lv_iconst (v := 1) hx hb dL_isKept_319 (by decide) ?_
                                        refine lv_goto (tgt := 324) hx hb dL_isKept_320 (by decide) ?_
                                        refine lv_iload hx hb dL_isKept_324 (lv_at hl 5 rfl) ?_
                                        refine lv_iload hx hb dL_isKept_326 (lv_at hl 3 rfl) ?_
                                        refine lv_icmp_gt (tgt := 335) hx hb dL_isKept_328 (by decide) (fun c328 => ?_) (fun c328 => ?_)
                                        · have c328n : l9 < G := ft_ltN (by omega) (by omega) c328
                                          exact absurd ((nI_leI (by omega) (by omega)).mp hgl) (by omega)
                                        · have c328n : G ≤ l9 := ft_nltN (by omega) (by omega) c328
                                          refine lv_iconst (v := 1) hx hb dL_isKept_331 (by decide) ?_
                                          refine lv_goto (tgt := 336) hx hb dL_isKept_332 (by decide) ?_
                                          refine lv_icmp_ne (tgt := 389) hx hb dL_isKept_336 (by decide) (fun c336 => ?_) (fun c336 => ?_)
                                          · exact absurd (by decide) c336
                                          · refine lv_iload hx hb dL_isKept_339 (lv_at hl 0 rfl) ?_
                                            refine lv_if_ne (tgt := 348) hx hb dL_isKept_341 (by decide) (fun c341 => ?_) (fun c341 => ?_)
                                            · exact absurd rfl c341
                                            · refine lv_iconst (v := 1) hx hb dL_isKept_344 (by decide) ?_
                                              refine lv_goto (tgt := 349) hx hb dL_isKept_345 (by decide) ?_
                                              refine lv_iload hx hb dL_isKept_349 (lv_at hl 1 rfl) ?_
                                              refine lv_if_ge (tgt := 358) hx hb dL_isKept_351 (by decide) (fun c351 => ?_) (fun c351 => ?_)
                                              · exact absurd c351 (by decide)
                                              · refine lv_iconst (v := 1) hx hb dL_isKept_354 (by decide) ?_
                                                refine lv_goto (tgt := 359) hx hb dL_isKept_355 (by decide) ?_
                                                refine lv_icmp_ne (tgt := 389) hx hb dL_isKept_359 (by decide) (fun c359 => ?_) (fun c359 => ?_)
                                                · exact absurd (by decide) c359
                                                · refine lv_iload hx hb dL_isKept_362 (lv_at hl 0 rfl) ?_
                                                  refine lv_aload_n hx hb dL_isKept_364 rfl (lv_at hl 12 rfl) ?_
                                                  refine lv_bipush (v := 15) hx hb dL_isKept_365 (by decide) ?_
                                                  refine ft_callB (X := (ftCB9 cI cS o0 Ao (u304.1.2.1 0) u304)) (Y := []) (X1 := fun (u367 : ftCdT) => (ftCB9 cI cS o0 Ao (u367.1.2.1 0) u367)) (ws1 := fun (u367 : ftCdT) => (ftCB9 cI cS o0 Ao (u367.1.2.1 0) u367)) (va_runV (C := RX10) (As := [.int 15]) (rest := [.int 0]) ⟨hx, hb, hml, hown, hts⟩ (eo_count l D cI cS H.size sK sV o0 Ao u304 (k + 1) v9 (ftPush (ftKeep w) (ftPush w z hm) (min (hm + 1) 5)) (min (min (hm + 1) 5 + 1) 5) to no 15 (by omega) hO) (cwV 1 hts gL_isKept_X10_count rfl rfl rfl (by decide +kernel) ⟨Nat.le_of_ble_eq_true rfl, Nat.le_of_ble_eq_true rfl⟩) (ft_preB (ci := 10) (ft_pmE _) hP hD hKK hSt hS hA rfl rfl) rfl rfl hl.1 rfl (lv_room (Nat.le_of_ble_eq_true rfl)) dL_isKept_367 ⟨Nat.le_of_ble_eq_true rfl, Nat.le_of_ble_eq_true rfl⟩) hP hD hS hA (ft_pmE _) (fun _ => (ft_pmE _).symm) (fun r367 u367 h367 H locs hP hD hS => ?_)
                                                  have hP : va_P D vwCl (ftCB9 cI cS o0 Ao (u367.1.2.1 0) u367) H := hP
                                                  have hD : va_D A (ftCB9 cI cS o0 Ao (u367.1.2.1 0) u367) := hD
                                                  obtain ⟨hr367, hO⟩ := h367
                                                  subst hr367
                                                  refine ft_top (y := nI (ftCL w + 60)) (lxCnt_15a.trans (by rw [hcl9])) ?_
                                                  refine lv_icmp_gt (tgt := 389) hx hb dL_isKept_370 (by decide) (fun c370 => ?_) (fun c370 => ?_)
                                                  · have c370n : (ftCL w + 60) < 0 := ft_ltN (by omega) (by omega) c370
                                                    exact absurd c370 (nI_pos (by omega))
                                                  · have c370n : 0 ≤ (ftCL w + 60) := ft_nltN (by omega) (by omega) c370
                                                    refine lv_iload hx hb dL_isKept_373 (lv_at hl 1 rfl) ?_
                                                    refine lv_if_lt (tgt := 385) hx hb dL_isKept_375 (by decide) (fun c375 => ?_) (fun c375 => ?_)
                                                    · refine lv_iconst (v := 1) hx hb dL_isKept_385 (by decide) ?_
                                                      refine lv_goto (tgt := 390) hx hb dL_isKept_386 (by decide) ?_
                                                      refine lv_istore (lv' := [(4, .int 1), (11, .int 0), (13, .int (-1000004)), (12, .int (nI l9)), (10, .int (nI b9)), (9, .int (nI G)), (8, .int (lxDf w v9 X)), (7, .int 0), (6, .int (ftCV w X)), (5, .int (nI X)), (3, .int (nI (ftKk w + 1))), (2, .int (nI (ftCK w))), (0, .ref o0), (1, .int (nI C))]) hx hb dL_isKept_390 hl (by decide) rfl (fun ls hl => ?_)
                                                      refine lv_iload hx hb dL_isKept_392 (lv_at hl 0 rfl) ?_
                                                      refine lv_if_eq (tgt := 442) hx hb dL_isKept_394 (by decide) (fun c394 => ?_) (fun c394 => ?_)
                                                      · exact absurd c394 (by decide)
                                                      · refine lv_aload_n hx hb dL_isKept_397 rfl (lv_at hl 12 rfl) ?_
                                                        refine ft_callB (X := (ftCB9 cI cS o0 Ao (u367.1.2.1 0) u367)) (Y := []) (X1 := fun (u398 : ftCdT) => (ftCB9 cI cS o0 Ao (u398.1.2.1 0) u398)) (ws1 := fun (u398 : ftCdT) => (ftCB9 cI cS o0 Ao (u398.1.2.1 0) u398)) (va_runV (C := RX10) (As := []) (rest := []) ⟨hx, hb, hml, hown, hts⟩ (eo_undo l D cI cS H.size sK sV o0 Ao u367 (k + 1) v9 (ftPush (ftKeep w) (ftPush w z hm) (min (hm + 1) 5)) (min (min (hm + 1) 5 + 1) 5) to no (by omega) hO (by omega)) (cwV 0 hts gL_isKept_X10_undo rfl rfl rfl (by decide +kernel) ⟨Nat.le_of_ble_eq_true rfl, Nat.le_of_ble_eq_true rfl⟩) (ft_preB (ci := 10) (ft_pmE _) hP hD hKK hSt hS hA rfl rfl) rfl rfl hl.1 rfl (lv_room (Nat.le_of_ble_eq_true rfl)) dL_isKept_398 ⟨Nat.le_of_ble_eq_true rfl, Nat.le_of_ble_eq_true rfl⟩) hP hD hS hA (ft_pmE _) (fun _ => (ft_pmE _).symm) (fun r398 u398 h398 H locs hP hD hS => ?_)
                                                        have hP : va_P D vwCl (ftCB9 cI cS o0 Ao (u398.1.2.1 0) u398) H := hP
                                                        have hD : va_D A (ftCB9 cI cS o0 Ao (u398.1.2.1 0) u398) := hD
                                                        obtain ⟨hr398, hO⟩ := h398
                                                        subst hr398
                                                        refine lv_if_lt (tgt := 442) hx hb dL_isKept_401 (by decide) (fun c401 => ?_) (fun c401 => ?_)
                                                        · exact absurd c401 (nI_pos (by omega))
                                                        · have hO := lx_undo hO (by omega) (fun t ht => by rw [hv9]; exact ftUpd_ne (by omega))
                                                          refine lv_aload_n hx hb dL_isKept_404 rfl (lv_at hl 12 rfl) ?_
                                                          refine lv_iconst (v := 3) hx hb dL_isKept_405 (by decide) ?_
                                                          refine ft_callB (X := (ftCB9 cI cS o0 Ao (u398.1.2.1 0) u398)) (Y := []) (X1 := fun (u406 : ftCdT) => (ftCB9 cI cS o0 Ao (u406.1.2.1 0) u406)) (ws1 := fun (u406 : ftCdT) => (ftCB9 cI cS o0 Ao (u406.1.2.1 0) u406)) (va_runV (C := RX10) (As := [.int 3]) (rest := []) ⟨hx, hb, hml, hown, hts⟩ (eo_count l D cI cS H.size sK sV o0 Ao u398 (k + 1) (ftKeep w) (ftPush (ftKeep w) (ftPush w z hm) (min (hm + 1) 5)) ((min (min (hm + 1) 5 + 1) 5) - 1) to no 3 (by omega) hO) (cwV 1 hts gL_isKept_X10_count rfl rfl rfl (by decide +kernel) ⟨Nat.le_of_ble_eq_true rfl, Nat.le_of_ble_eq_true rfl⟩) (ft_preB (ci := 10) (ft_pmE _) hP hD hKK hSt hS hA rfl rfl) rfl rfl hl.1 rfl (lv_room (Nat.le_of_ble_eq_true rfl)) dL_isKept_406 ⟨Nat.le_of_ble_eq_true rfl, Nat.le_of_ble_eq_true rfl⟩) hP hD hS hA (ft_pmE _) (fun _ => (ft_pmE _).symm) (fun r406 u406 h406 H locs hP hD hS => ?_)
                                                          have hP : va_P D vwCl (ftCB9 cI cS o0 Ao (u406.1.2.1 0) u406) H := hP
                                                          have hD : va_D A (ftCB9 cI cS o0 Ao (u406.1.2.1 0) u406) := hD
                                                          obtain ⟨hr406, hO⟩ := h406
                                                          subst hr406
                                                          refine ft_top (y := 0) (lxCnt_3.trans ((ftKeep_lo (by omega)).trans h0)) ?_
                                                          refine lv_iload hx hb dL_isKept_409 (lv_at hl 7 rfl) ?_
                                                          refine lv_icmp_ne (tgt := 442) hx hb dL_isKept_411 (by decide) (fun c411 => ?_) (fun c411 => ?_)
                                                          · exact absurd (by decide) c411
                                                          · refine lv_aload_n hx hb dL_isKept_414 rfl (lv_at hl 12 rfl) ?_
                                                            refine lv_iload hx hb dL_isKept_415 (lv_at hl 9 rfl) ?_
                                                            refine lv_iconst (v := 0) hx hb dL_isKept_417 (by decide) ?_
                                                            refine ft_callB (X := (ftCB9 cI cS o0 Ao (u406.1.2.1 0) u406)) (Y := []) (X1 := fun (u418 : ftCdT) => (ftCB9 cI cS o0 Ao (u418.1.2.1 0) u418)) (ws1 := fun (u418 : ftCdT) => (ftCB9 cI cS o0 Ao (u418.1.2.1 0) u418)) (va_runV (C := RX10) (As := [.int (nI X), .int 0]) (rest := []) ⟨hx, hb, hml, hown, hts⟩ (eo_sample l D cI cS H.size sK sV o0 Ao u406 (k + 1) (ftKeep w) (ftPush (ftKeep w) (ftPush w z hm) (min (hm + 1) 5)) ((min (min (hm + 1) 5 + 1) 5) - 1) to no (nI X) 0 (by omega) hO) (cwV 2 hts gL_isKept_X10_sample rfl rfl rfl (by decide +kernel) ⟨Nat.le_of_ble_eq_true rfl, Nat.le_of_ble_eq_true rfl⟩) (ft_preB (ci := 10) (ft_pmE _) hP hD hKK hSt hS hA rfl rfl) rfl rfl hl.1 rfl (lv_room (Nat.le_of_ble_eq_true rfl)) dL_isKept_418 ⟨Nat.le_of_ble_eq_true rfl, Nat.le_of_ble_eq_true rfl⟩) hP hD hS hA (ft_pmE _) (fun _ => (ft_pmE _).symm) (fun r418 u418 h418 H locs hP hD hS => ?_)
                                                            have hP : va_P D vwCl (ftCB9 cI cS o0 Ao (u418.1.2.1 0) u418) H := hP
                                                            have hD : va_D A (ftCB9 cI cS o0 Ao (u418.1.2.1 0) u418) := hD
                                                            obtain ⟨hr418, hO⟩ := h418
                                                            subst hr418
                                                            refine ft_top (y := ftCV w X) ((lxSm (by rw [lxKp_cl]; exact hX) (by rw [lxKp_cl]; exact hln)).trans (lxKp_cv hWf X)) ?_
                                                            refine lv_iload hx hb dL_isKept_421 (lv_at hl 8 rfl) ?_
                                                            refine lv_icmp_ne (tgt := 442) hx hb dL_isKept_423 (by decide) (fun c423 => ?_) (fun c423 => ?_)
                                                            · exact absurd rfl c423
                                                            · refine lv_aload_n hx hb dL_isKept_426 rfl (lv_at hl 12 rfl) ?_
                                                              refine lv_iload_n hx hb dL_isKept_427 rfl (lv_at hl 10 rfl) ?_
                                                              refine lv_iconst (v := 1) hx hb dL_isKept_428 (by decide) ?_
                                                              refine lv_isub hx hb dL_isKept_429 ?_
                                                              refine ft_top (y := nI (ftKk w)) (ft_subN (a := ftKk w + 1) (b := 1) (by omega)) ?_
                                                              refine lv_iconst (v := 0) hx hb dL_isKept_430 (by decide) ?_
                                                              refine lv_iconst (v := 1) hx hb dL_isKept_431 (by decide) ?_
                                                              refine ft_callB (X := (ftCB9 cI cS o0 Ao (u418.1.2.1 0) u418)) (Y := []) (X1 := fun (u432 : ftCdT) => (ftCB9 cI cS o0 Ao (u432.1.2.1 0) u432)) (ws1 := fun (u432 : ftCdT) => (ftCB9 cI cS o0 Ao (u432.1.2.1 0) u432)) (va_runV (C := RX10) (As := [.int (nI (ftKk w)), .int 0, .int 1]) (rest := []) ⟨hx, hb, hml, hown, hts⟩ (eo_compare l D cI cS H.size sK sV o0 Ao u418 (k + 1) (ftKeep w) (ftPush (ftKeep w) (ftPush w z hm) (min (hm + 1) 5)) ((min (min (hm + 1) 5 + 1) 5) - 1) to no (nI (ftKk w)) 0 1 (by omega) hO) (cwV 3 hts gL_isKept_X10_compare rfl rfl rfl (by decide +kernel) ⟨Nat.le_of_ble_eq_true rfl, Nat.le_of_ble_eq_true rfl⟩) (ft_preB (ci := 10) (ft_pmE _) hP hD hKK hSt hS hA rfl rfl) rfl rfl hl.1 rfl (lv_room (Nat.le_of_ble_eq_true rfl)) dL_isKept_432 ⟨Nat.le_of_ble_eq_true rfl, Nat.le_of_ble_eq_true rfl⟩) hP hD hS hA (ft_pmE _) (fun _ => (ft_pmE _).symm) (fun r432 u432 h432 H locs hP hD hS => ?_)
                                                              have hP : va_P D vwCl (ftCB9 cI cS o0 Ao (u432.1.2.1 0) u432) H := hP
                                                              have hD : va_D A (ftCB9 cI cS o0 Ao (u432.1.2.1 0) u432) := hD
                                                              obtain ⟨hr432, hO⟩ := h432
                                                              subst hr432
                                                              refine ft_top (y := 0) (lxKp_self hWf (j := 1) (by omega)) ?_
                                                              refine lv_if_ne (tgt := 442) hx hb dL_isKept_435 (by decide) (fun c435 => ?_) (fun c435 => ?_)
                                                              · exact absurd rfl c435
                                                              · refine lv_iconst (v := 1) hx hb dL_isKept_438 (by decide) ?_
                                                                refine lv_goto (tgt := 443) hx hb dL_isKept_439 (by decide) ?_
                                                                obtain ⟨u9, hu9⟩ : ∃ u9 : ftCdT, u9 = u432 := ⟨_, rfl⟩
                                                                have hw9 : ((ftCB9 cI cS o0 Ao (u432.1.2.1 0) u432) : va_W) = (ftCB9 cI cS o0 Ao (u9.1.2.1 0) u9) := by subst hu9; rfl
                                                                rw [hw9] at hP hD
                                                                have hf9_0 : ∃ z9 h9, lxO (k + 1) u9 (ftKeep w) z9 h9 to no := by rw [hu9]; exact ⟨_, _, hO⟩
                                                                have hr9 : (1 : Int32) = 1 := by exact rfl
                                                                exact W.zret (v := 1) hx hb hr (by rfl) (fun t ht hW => ⟨⟨1, u9, rfl, ⟨hr9, hf9_0⟩, by rw [ht]; exact hP, by rw [hAe]; exact hD⟩, by rw [hAe]; exact hS.F ht⟩) hS.2.2 dL_isKept_443
                                                    · exact absurd (by decide) c375
                                  · obtain ⟨⟨q9, hqb, hq9⟩, c9, hc0, hcN, hc9⟩ := hlim.2 hgl
                                    refine lv_aload_n hx hb dL_isKept_285 rfl (lv_at hl 11 rfl) ?_
                                    refine lv_iload_n hx hb dL_isKept_286 rfl (lv_at hl 9 rfl) ?_
                                    refine lv_iconst (v := 1) hx hb dL_isKept_287 (by decide) ?_
                                    refine lv_isub hx hb dL_isKept_288 ?_
                                    refine ft_top (y := nI (ftKk w)) (ft_subN (a := ftKk w + 1) (b := 1) (by omega)) ?_
                                    refine lv_iload hx hb dL_isKept_289 (lv_at hl 1 rfl) ?_
                                    refine lv_iconst (v := 0) hx hb dL_isKept_291 (by decide) ?_
                                    refine ft_callB (X := (ftCB9 cI cS o0 Ao (co9.1.2.1 0) co9)) (Y := []) (X1 := fun (u292 : ftCdT) => (ftCB9 cI cS o0 Ao (u292.1.2.1 0) u292)) (ws1 := fun (u292 : ftCdT) => (ftCB9 cI cS o0 Ao (u292.1.2.1 0) u292)) (va_runV (C := RX10) (As := [.int (nI (ftKk w)), .int (nI l9), .int 0]) (rest := []) ⟨hx, hb, hml, hown, hts⟩ (eo_compare l D cI cS H.size sK sV o0 Ao co9 (k + 1) v9 (ftPush (ftKeep w) (ftPush w z hm) (min (hm + 1) 5)) (min (min (hm + 1) 5 + 1) 5) to no (nI (ftKk w)) (nI l9) 0 (by omega) hO) (cwV 3 hts gL_isKept_X10_compare rfl rfl rfl (by decide +kernel) ⟨Nat.le_of_ble_eq_true rfl, Nat.le_of_ble_eq_true rfl⟩) (ft_preB (ci := 10) (ft_pmE _) hP hD hKK hSt hS hA rfl rfl) rfl rfl hl.1 rfl (lv_room (Nat.le_of_ble_eq_true rfl)) dL_isKept_292 ⟨Nat.le_of_ble_eq_true rfl, Nat.le_of_ble_eq_true rfl⟩) hP hD hS hA (ft_pmE _) (fun _ => (ft_pmE _).symm) (fun r292 u292 h292 H locs hP hD hS => ?_)
                                    have hP : va_P D vwCl (ftCB9 cI cS o0 Ao (u292.1.2.1 0) u292) H := hP
                                    have hD : va_D A (ftCB9 cI cS o0 Ao (u292.1.2.1 0) u292) := hD
                                    obtain ⟨hr292, hO⟩ := h292
                                    subst hr292
                                    refine ft_top (y := nI q9) ((lx_cmA h559 hK3 (lx_li (by omega)) (j := 0) (by omega)).trans hq9) ?_
                                    refine lv_istore (lv' := [(13, .int (nI q9)), (4, .int 1), (12, .int (nI l9)), (11, .int 0), (10, .int (nI b9)), (9, .int (nI G)), (8, .int (lxDf w v9 X)), (7, .int 0), (6, .int (ftCV w X)), (5, .int (nI X)), (3, .int (nI (ftKk w + 1))), (2, .int (nI (ftCK w))), (0, .ref o0), (1, .int (nI C))]) hx hb dL_isKept_295 hl (by decide) rfl (fun ls hl => ?_)
                                    refine lv_aload_n hx hb dL_isKept_297 rfl (lv_at hl 12 rfl) ?_
                                    refine lv_iload_n hx hb dL_isKept_298 rfl (lv_at hl 10 rfl) ?_
                                    refine lv_iconst (v := 1) hx hb dL_isKept_299 (by decide) ?_
                                    refine lv_isub hx hb dL_isKept_300 ?_
                                    refine ft_top (y := nI (ftKk w)) (ft_subN (a := ftKk w + 1) (b := 1) (by omega)) ?_
                                    refine lv_iload hx hb dL_isKept_301 (lv_at hl 2 rfl) ?_
                                    refine lv_iconst (v := 1) hx hb dL_isKept_303 (by decide) ?_
                                    refine ft_callB (X := (ftCB9 cI cS o0 Ao (u292.1.2.1 0) u292)) (Y := []) (X1 := fun (u304 : ftCdT) => (ftCB9 cI cS o0 Ao (u304.1.2.1 0) u304)) (ws1 := fun (u304 : ftCdT) => (ftCB9 cI cS o0 Ao (u304.1.2.1 0) u304)) (va_runV (C := RX10) (As := [.int (nI (ftKk w)), .int (nI l9), .int 1]) (rest := []) ⟨hx, hb, hml, hown, hts⟩ (eo_compare l D cI cS H.size sK sV o0 Ao u292 (k + 1) v9 (ftPush (ftKeep w) (ftPush w z hm) (min (hm + 1) 5)) (min (min (hm + 1) 5 + 1) 5) to no (nI (ftKk w)) (nI l9) 1 (by omega) hO) (cwV 3 hts gL_isKept_X10_compare rfl rfl rfl (by decide +kernel) ⟨Nat.le_of_ble_eq_true rfl, Nat.le_of_ble_eq_true rfl⟩) (ft_preB (ci := 10) (ft_pmE _) hP hD hKK hSt hS hA rfl rfl) rfl rfl hl.1 rfl (lv_room (Nat.le_of_ble_eq_true rfl)) dL_isKept_304 ⟨Nat.le_of_ble_eq_true rfl, Nat.le_of_ble_eq_true rfl⟩) hP hD hS hA (ft_pmE _) (fun _ => (ft_pmE _).symm) (fun r304 u304 h304 H locs hP hD hS => ?_)
                                    have hP : va_P D vwCl (ftCB9 cI cS o0 Ao (u304.1.2.1 0) u304) H := hP
                                    have hD : va_D A (ftCB9 cI cS o0 Ao (u304.1.2.1 0) u304) := hD
                                    obtain ⟨hr304, hO⟩ := h304
                                    subst hr304
                                    refine ft_top (y := nI c9) ((lx_cmA h559 hK3 (lx_li (by omega)) (j := 1) (by omega)).trans hc9) ?_
                                    refine lv_istore (lv' := [(11, .int (nI c9)), (13, .int (nI q9)), (4, .int 1), (12, .int (nI l9)), (10, .int (nI b9)), (9, .int (nI G)), (8, .int (lxDf w v9 X)), (7, .int 0), (6, .int (ftCV w X)), (5, .int (nI X)), (3, .int (nI (ftKk w + 1))), (2, .int (nI (ftCK w))), (0, .ref o0), (1, .int (nI C))]) hx hb dL_isKept_307 hl (by decide) rfl (fun ls hl => ?_)
                                    refine lv_iload hx hb dL_isKept_309 (lv_at hl 2 rfl) ?_
                                    refine lv_if_eq (tgt := 389) hx hb dL_isKept_311 (by decide) (fun c311 => ?_) (fun c311 => ?_)
                                    · exact absurd c311 (by decide)
                                    · refine lv_iload hx hb dL_isKept_314 (lv_at hl 1 rfl) ?_
                                      refine lv_if_ge (tgt := 323) hx hb dL_isKept_316 (by decide) (fun c316 => ?_) (fun c316 => ?_)
                                      · refine lv_iconst (v := 0) hx hb dL_isKept_323 (by decide) ?_
                                        refine lv_iload hx hb dL_isKept_324 (lv_at hl 5 rfl) ?_
                                        refine lv_iload hx hb dL_isKept_326 (lv_at hl 3 rfl) ?_
                                        refine lv_icmp_gt (tgt := 335) hx hb dL_isKept_328 (by decide) (fun c328 => ?_) (fun c328 => ?_)
                                        · have c328n : l9 < G := ft_ltN (by omega) (by omega) c328
                                          refine lv_iconst (v := 0) hx hb dL_isKept_335 (by decide) ?_
                                          refine lv_icmp_ne (tgt := 389) hx hb dL_isKept_336 (by decide) (fun c336 => ?_) (fun c336 => ?_)
                                          · exact absurd (by decide) c336
                                          · refine lv_iload hx hb dL_isKept_339 (lv_at hl 0 rfl) ?_
                                            refine lv_if_ne (tgt := 348) hx hb dL_isKept_341 (by decide) (fun c341 => ?_) (fun c341 => ?_)
                                            · have c341n : c9 ≠ 0 := ft_neN (by omega) (by omega) c341
                                              refine lv_iconst (v := 0) hx hb dL_isKept_348 (by decide) ?_
                                              refine lv_iload hx hb dL_isKept_349 (lv_at hl 1 rfl) ?_
                                              refine lv_if_ge (tgt := 358) hx hb dL_isKept_351 (by decide) (fun c351 => ?_) (fun c351 => ?_)
                                              · refine lv_iconst (v := 0) hx hb dL_isKept_358 (by decide) ?_
                                                refine lv_icmp_ne (tgt := 389) hx hb dL_isKept_359 (by decide) (fun c359 => ?_) (fun c359 => ?_)
                                                · exact absurd (by decide) c359
                                                · refine lv_iload hx hb dL_isKept_362 (lv_at hl 0 rfl) ?_
                                                  refine lv_aload_n hx hb dL_isKept_364 rfl (lv_at hl 12 rfl) ?_
                                                  refine lv_bipush (v := 15) hx hb dL_isKept_365 (by decide) ?_
                                                  refine ft_callB (X := (ftCB9 cI cS o0 Ao (u304.1.2.1 0) u304)) (Y := []) (X1 := fun (u367 : ftCdT) => (ftCB9 cI cS o0 Ao (u367.1.2.1 0) u367)) (ws1 := fun (u367 : ftCdT) => (ftCB9 cI cS o0 Ao (u367.1.2.1 0) u367)) (va_runV (C := RX10) (As := [.int 15]) (rest := [.int (nI c9)]) ⟨hx, hb, hml, hown, hts⟩ (eo_count l D cI cS H.size sK sV o0 Ao u304 (k + 1) v9 (ftPush (ftKeep w) (ftPush w z hm) (min (hm + 1) 5)) (min (min (hm + 1) 5 + 1) 5) to no 15 (by omega) hO) (cwV 1 hts gL_isKept_X10_count rfl rfl rfl (by decide +kernel) ⟨Nat.le_of_ble_eq_true rfl, Nat.le_of_ble_eq_true rfl⟩) (ft_preB (ci := 10) (ft_pmE _) hP hD hKK hSt hS hA rfl rfl) rfl rfl hl.1 rfl (lv_room (Nat.le_of_ble_eq_true rfl)) dL_isKept_367 ⟨Nat.le_of_ble_eq_true rfl, Nat.le_of_ble_eq_true rfl⟩) hP hD hS hA (ft_pmE _) (fun _ => (ft_pmE _).symm) (fun r367 u367 h367 H locs hP hD hS => ?_)
                                                  have hP : va_P D vwCl (ftCB9 cI cS o0 Ao (u367.1.2.1 0) u367) H := hP
                                                  have hD : va_D A (ftCB9 cI cS o0 Ao (u367.1.2.1 0) u367) := hD
                                                  obtain ⟨hr367, hO⟩ := h367
                                                  subst hr367
                                                  refine ft_top (y := nI (ftCL w + 60)) (lxCnt_15a.trans (by rw [hcl9])) ?_
                                                  refine lv_icmp_gt (tgt := 389) hx hb dL_isKept_370 (by decide) (fun c370 => ?_) (fun c370 => ?_)
                                                  · have c370n : (ftCL w + 60) < c9 := ft_ltN (by omega) (by omega) c370
                                                    exact absurd c370n (by omega)
                                                  · have c370n : c9 ≤ (ftCL w + 60) := ft_nltN (by omega) (by omega) c370
                                                    refine lv_iload hx hb dL_isKept_373 (lv_at hl 1 rfl) ?_
                                                    refine lv_if_lt (tgt := 385) hx hb dL_isKept_375 (by decide) (fun c375 => ?_) (fun c375 => ?_)
                                                    · exact absurd c375 (nI_pos (by omega))
                                                    · refine lv_iload hx hb dL_isKept_378 (lv_at hl 1 rfl) ?_
                                                      refine lv_iload hx hb dL_isKept_380 (lv_at hl 4 rfl) ?_
                                                      refine lv_icmp_gt (tgt := 389) hx hb dL_isKept_382 (by decide) (fun c382 => ?_) (fun c382 => ?_)
                                                      · have c382n : b9 < q9 := ft_ltN (by omega) (by omega) c382
                                                        exact absurd c382n (by omega)
                                                      · have c382n : q9 ≤ b9 := ft_nltN (by omega) (by omega) c382
                                                        refine lv_iconst (v := 1) hx hb dL_isKept_385 (by decide) ?_
                                                        refine lv_goto (tgt := 390) hx hb dL_isKept_386 (by decide) ?_
                                                        refine lv_istore (lv' := [(4, .int 1), (11, .int (nI c9)), (13, .int (nI q9)), (12, .int (nI l9)), (10, .int (nI b9)), (9, .int (nI G)), (8, .int (lxDf w v9 X)), (7, .int 0), (6, .int (ftCV w X)), (5, .int (nI X)), (3, .int (nI (ftKk w + 1))), (2, .int (nI (ftCK w))), (0, .ref o0), (1, .int (nI C))]) hx hb dL_isKept_390 hl (by decide) rfl (fun ls hl => ?_)
                                                        refine lv_iload hx hb dL_isKept_392 (lv_at hl 0 rfl) ?_
                                                        refine lv_if_eq (tgt := 442) hx hb dL_isKept_394 (by decide) (fun c394 => ?_) (fun c394 => ?_)
                                                        · exact absurd c394 (by decide)
                                                        · refine lv_aload_n hx hb dL_isKept_397 rfl (lv_at hl 12 rfl) ?_
                                                          refine ft_callB (X := (ftCB9 cI cS o0 Ao (u367.1.2.1 0) u367)) (Y := []) (X1 := fun (u398 : ftCdT) => (ftCB9 cI cS o0 Ao (u398.1.2.1 0) u398)) (ws1 := fun (u398 : ftCdT) => (ftCB9 cI cS o0 Ao (u398.1.2.1 0) u398)) (va_runV (C := RX10) (As := []) (rest := []) ⟨hx, hb, hml, hown, hts⟩ (eo_undo l D cI cS H.size sK sV o0 Ao u367 (k + 1) v9 (ftPush (ftKeep w) (ftPush w z hm) (min (hm + 1) 5)) (min (min (hm + 1) 5 + 1) 5) to no (by omega) hO (by omega)) (cwV 0 hts gL_isKept_X10_undo rfl rfl rfl (by decide +kernel) ⟨Nat.le_of_ble_eq_true rfl, Nat.le_of_ble_eq_true rfl⟩) (ft_preB (ci := 10) (ft_pmE _) hP hD hKK hSt hS hA rfl rfl) rfl rfl hl.1 rfl (lv_room (Nat.le_of_ble_eq_true rfl)) dL_isKept_398 ⟨Nat.le_of_ble_eq_true rfl, Nat.le_of_ble_eq_true rfl⟩) hP hD hS hA (ft_pmE _) (fun _ => (ft_pmE _).symm) (fun r398 u398 h398 H locs hP hD hS => ?_)
                                                          have hP : va_P D vwCl (ftCB9 cI cS o0 Ao (u398.1.2.1 0) u398) H := hP
                                                          have hD : va_D A (ftCB9 cI cS o0 Ao (u398.1.2.1 0) u398) := hD
                                                          obtain ⟨hr398, hO⟩ := h398
                                                          subst hr398
                                                          refine lv_if_lt (tgt := 442) hx hb dL_isKept_401 (by decide) (fun c401 => ?_) (fun c401 => ?_)
                                                          · exact absurd c401 (nI_pos (by omega))
                                                          · have hO := lx_undo hO (by omega) (fun t ht => by rw [hv9]; exact ftUpd_ne (by omega))
                                                            refine lv_aload_n hx hb dL_isKept_404 rfl (lv_at hl 12 rfl) ?_
                                                            refine lv_iconst (v := 3) hx hb dL_isKept_405 (by decide) ?_
                                                            refine ft_callB (X := (ftCB9 cI cS o0 Ao (u398.1.2.1 0) u398)) (Y := []) (X1 := fun (u406 : ftCdT) => (ftCB9 cI cS o0 Ao (u406.1.2.1 0) u406)) (ws1 := fun (u406 : ftCdT) => (ftCB9 cI cS o0 Ao (u406.1.2.1 0) u406)) (va_runV (C := RX10) (As := [.int 3]) (rest := []) ⟨hx, hb, hml, hown, hts⟩ (eo_count l D cI cS H.size sK sV o0 Ao u398 (k + 1) (ftKeep w) (ftPush (ftKeep w) (ftPush w z hm) (min (hm + 1) 5)) ((min (min (hm + 1) 5 + 1) 5) - 1) to no 3 (by omega) hO) (cwV 1 hts gL_isKept_X10_count rfl rfl rfl (by decide +kernel) ⟨Nat.le_of_ble_eq_true rfl, Nat.le_of_ble_eq_true rfl⟩) (ft_preB (ci := 10) (ft_pmE _) hP hD hKK hSt hS hA rfl rfl) rfl rfl hl.1 rfl (lv_room (Nat.le_of_ble_eq_true rfl)) dL_isKept_406 ⟨Nat.le_of_ble_eq_true rfl, Nat.le_of_ble_eq_true rfl⟩) hP hD hS hA (ft_pmE _) (fun _ => (ft_pmE _).symm) (fun r406 u406 h406 H locs hP hD hS => ?_)
                                                            have hP : va_P D vwCl (ftCB9 cI cS o0 Ao (u406.1.2.1 0) u406) H := hP
                                                            have hD : va_D A (ftCB9 cI cS o0 Ao (u406.1.2.1 0) u406) := hD
                                                            obtain ⟨hr406, hO⟩ := h406
                                                            subst hr406
                                                            refine ft_top (y := 0) (lxCnt_3.trans ((ftKeep_lo (by omega)).trans h0)) ?_
                                                            refine lv_iload hx hb dL_isKept_409 (lv_at hl 7 rfl) ?_
                                                            refine lv_icmp_ne (tgt := 442) hx hb dL_isKept_411 (by decide) (fun c411 => ?_) (fun c411 => ?_)
                                                            · exact absurd (by decide) c411
                                                            · refine lv_aload_n hx hb dL_isKept_414 rfl (lv_at hl 12 rfl) ?_
                                                              refine lv_iload hx hb dL_isKept_415 (lv_at hl 9 rfl) ?_
                                                              refine lv_iconst (v := 0) hx hb dL_isKept_417 (by decide) ?_
                                                              refine ft_callB (X := (ftCB9 cI cS o0 Ao (u406.1.2.1 0) u406)) (Y := []) (X1 := fun (u418 : ftCdT) => (ftCB9 cI cS o0 Ao (u418.1.2.1 0) u418)) (ws1 := fun (u418 : ftCdT) => (ftCB9 cI cS o0 Ao (u418.1.2.1 0) u418)) (va_runV (C := RX10) (As := [.int (nI X), .int 0]) (rest := []) ⟨hx, hb, hml, hown, hts⟩ (eo_sample l D cI cS H.size sK sV o0 Ao u406 (k + 1) (ftKeep w) (ftPush (ftKeep w) (ftPush w z hm) (min (hm + 1) 5)) ((min (min (hm + 1) 5 + 1) 5) - 1) to no (nI X) 0 (by omega) hO) (cwV 2 hts gL_isKept_X10_sample rfl rfl rfl (by decide +kernel) ⟨Nat.le_of_ble_eq_true rfl, Nat.le_of_ble_eq_true rfl⟩) (ft_preB (ci := 10) (ft_pmE _) hP hD hKK hSt hS hA rfl rfl) rfl rfl hl.1 rfl (lv_room (Nat.le_of_ble_eq_true rfl)) dL_isKept_418 ⟨Nat.le_of_ble_eq_true rfl, Nat.le_of_ble_eq_true rfl⟩) hP hD hS hA (ft_pmE _) (fun _ => (ft_pmE _).symm) (fun r418 u418 h418 H locs hP hD hS => ?_)
                                                              have hP : va_P D vwCl (ftCB9 cI cS o0 Ao (u418.1.2.1 0) u418) H := hP
                                                              have hD : va_D A (ftCB9 cI cS o0 Ao (u418.1.2.1 0) u418) := hD
                                                              obtain ⟨hr418, hO⟩ := h418
                                                              subst hr418
                                                              refine ft_top (y := ftCV w X) ((lxSm (by rw [lxKp_cl]; exact hX) (by rw [lxKp_cl]; exact hln)).trans (lxKp_cv hWf X)) ?_
                                                              refine lv_iload hx hb dL_isKept_421 (lv_at hl 8 rfl) ?_
                                                              refine lv_icmp_ne (tgt := 442) hx hb dL_isKept_423 (by decide) (fun c423 => ?_) (fun c423 => ?_)
                                                              · exact absurd rfl c423
                                                              · refine lv_aload_n hx hb dL_isKept_426 rfl (lv_at hl 12 rfl) ?_
                                                                refine lv_iload_n hx hb dL_isKept_427 rfl (lv_at hl 10 rfl) ?_
                                                                refine lv_iconst (v := 1) hx hb dL_isKept_428 (by decide) ?_
                                                                refine lv_isub hx hb dL_isKept_429 ?_
                                                                refine ft_top (y := nI (ftKk w)) (ft_subN (a := ftKk w + 1) (b := 1) (by omega)) ?_
                                                                refine lv_iconst (v := 0) hx hb dL_isKept_430 (by decide) ?_
                                                                refine lv_iconst (v := 1) hx hb dL_isKept_431 (by decide) ?_
                                                                refine ft_callB (X := (ftCB9 cI cS o0 Ao (u418.1.2.1 0) u418)) (Y := []) (X1 := fun (u432 : ftCdT) => (ftCB9 cI cS o0 Ao (u432.1.2.1 0) u432)) (ws1 := fun (u432 : ftCdT) => (ftCB9 cI cS o0 Ao (u432.1.2.1 0) u432)) (va_runV (C := RX10) (As := [.int (nI (ftKk w)), .int 0, .int 1]) (rest := []) ⟨hx, hb, hml, hown, hts⟩ (eo_compare l D cI cS H.size sK sV o0 Ao u418 (k + 1) (ftKeep w) (ftPush (ftKeep w) (ftPush w z hm) (min (hm + 1) 5)) ((min (min (hm + 1) 5 + 1) 5) - 1) to no (nI (ftKk w)) 0 1 (by omega) hO) (cwV 3 hts gL_isKept_X10_compare rfl rfl rfl (by decide +kernel) ⟨Nat.le_of_ble_eq_true rfl, Nat.le_of_ble_eq_true rfl⟩) (ft_preB (ci := 10) (ft_pmE _) hP hD hKK hSt hS hA rfl rfl) rfl rfl hl.1 rfl (lv_room (Nat.le_of_ble_eq_true rfl)) dL_isKept_432 ⟨Nat.le_of_ble_eq_true rfl, Nat.le_of_ble_eq_true rfl⟩) hP hD hS hA (ft_pmE _) (fun _ => (ft_pmE _).symm) (fun r432 u432 h432 H locs hP hD hS => ?_)
                                                                have hP : va_P D vwCl (ftCB9 cI cS o0 Ao (u432.1.2.1 0) u432) H := hP
                                                                have hD : va_D A (ftCB9 cI cS o0 Ao (u432.1.2.1 0) u432) := hD
                                                                obtain ⟨hr432, hO⟩ := h432
                                                                subst hr432
                                                                refine ft_top (y := 0) (lxKp_self hWf (j := 1) (by omega)) ?_
                                                                refine lv_if_ne (tgt := 442) hx hb dL_isKept_435 (by decide) (fun c435 => ?_) (fun c435 => ?_)
                                                                · exact absurd rfl c435
                                                                · refine lv_iconst (v := 1) hx hb dL_isKept_438 (by decide) ?_
                                                                  refine lv_goto (tgt := 443) hx hb dL_isKept_439 (by decide) ?_
                                                                  obtain ⟨u9, hu9⟩ : ∃ u9 : ftCdT, u9 = u432 := ⟨_, rfl⟩
                                                                  have hw9 : ((ftCB9 cI cS o0 Ao (u432.1.2.1 0) u432) : va_W) = (ftCB9 cI cS o0 Ao (u9.1.2.1 0) u9) := by subst hu9; rfl
                                                                  rw [hw9] at hP hD
                                                                  have hf9_0 : ∃ z9 h9, lxO (k + 1) u9 (ftKeep w) z9 h9 to no := by rw [hu9]; exact ⟨_, _, hO⟩
                                                                  have hr9 : (1 : Int32) = 1 := by exact rfl
                                                                  exact W.zret (v := 1) hx hb hr (by rfl) (fun t ht hW => ⟨⟨1, u9, rfl, ⟨hr9, hf9_0⟩, by rw [ht]; exact hP, by rw [hAe]; exact hD⟩, by rw [hAe]; exact hS.F ht⟩) hS.2.2 dL_isKept_443
                                              · exact absurd (nI_le (a := 0) (Nat.zero_le _) (by omega)) c351
                                            · have c341n : c9 = 0 := ft_eqN (by omega) (by omega) c341
                                              exact absurd c341n (by omega)
                                        · have c328n : G ≤ l9 := ft_nltN (by omega) (by omega) c328
                                          exact absurd ((nI_leI (by omega) (by omega)).mpr c328n) hgl
                                      · exact absurd (nI_le (a := 0) (Nat.zero_le _) (by omega)) c316
                                refine lv_iload hx hb dL_isKept_256 (lv_at hl 3 rfl) ?_
                                refine lv_if_eq (tgt := 278) hx hb dL_isKept_258 (by decide) (fun c258 => ?_) (fun c258 => ?_)
                                · have c258n : G = 0 := ft_eqN (by omega) (by omega) c258
                                  exact jn278 u250 (by exact hO) _ _ hP hD hS ls (lv_sub hl [0, 1, 2, 3, 4, 5, 6, 7, 8, 9, 10, 11, 12] rfl)
                                · have c258n : G ≠ 0 := ft_neN (by omega) (by omega) c258
                                  refine lv_aload_n hx hb dL_isKept_261 rfl (lv_at hl 11 rfl) ?_
                                  refine lv_iload_n hx hb dL_isKept_262 rfl (lv_at hl 9 rfl) ?_
                                  refine lv_iconst (v := 1) hx hb dL_isKept_263 (by decide) ?_
                                  refine lv_isub hx hb dL_isKept_264 ?_
                                  refine ft_top (y := nI (ftKk w)) (ft_subN (a := ftKk w + 1) (b := 1) (by omega)) ?_
                                  refine lv_iload hx hb dL_isKept_265 (lv_at hl 3 rfl) ?_
                                  refine lv_iconst (v := 1) hx hb dL_isKept_267 (by decide) ?_
                                  refine lv_isub hx hb dL_isKept_268 ?_
                                  refine ft_top (y := nI (G - 1)) (ft_subN (a := G) (b := 1) (by omega)) ?_
                                  refine lv_iconst (v := 0) hx hb dL_isKept_269 (by decide) ?_
                                  refine ft_callB (X := (ftCB9 cI cS o0 Ao (u250.1.2.1 0) u250)) (Y := []) (X1 := fun (u270 : ftCdT) => (ftCB9 cI cS o0 Ao (u270.1.2.1 0) u270)) (ws1 := fun (u270 : ftCdT) => (ftCB9 cI cS o0 Ao (u270.1.2.1 0) u270)) (va_runV (C := RX10) (As := [.int (nI (ftKk w)), .int (nI (G - 1)), .int 0]) (rest := []) ⟨hx, hb, hml, hown, hts⟩ (eo_compare l D cI cS H.size sK sV o0 Ao u250 (k + 1) v9 (ftPush (ftKeep w) (ftPush w z hm) (min (hm + 1) 5)) (min ((min (hm + 1) 5) + 1) 5) to no (nI (ftKk w)) (nI (G - 1)) 0 (by omega) hO) (cwV 3 hts gL_isKept_X10_compare rfl rfl rfl (by decide +kernel) ⟨Nat.le_of_ble_eq_true rfl, Nat.le_of_ble_eq_true rfl⟩) (ft_preB (ci := 10) (ft_pmE _) hP hD hKK hSt hS hA rfl rfl) rfl rfl hl.1 rfl (lv_room (Nat.le_of_ble_eq_true rfl)) dL_isKept_270 ⟨Nat.le_of_ble_eq_true rfl, Nat.le_of_ble_eq_true rfl⟩) hP hD hS hA (ft_pmE _) (fun _ => (ft_pmE _).symm) (fun r270 u270 h270 H locs hP hD hS => ?_)
                                  have hP : va_P D vwCl (ftCB9 cI cS o0 Ao (u270.1.2.1 0) u270) H := hP
                                  have hD : va_D A (ftCB9 cI cS o0 Ao (u270.1.2.1 0) u270) := hD
                                  obtain ⟨hr270, hO⟩ := h270
                                  subst hr270
                                  refine ft_top (y := nI b9) ((lx_cmA h559 hK3 (lx_li (by omega)) (j := 0) (by omega)).trans (lxKv_predN hWf e47 e56 hG1 (by omega) hb9 hGb hGm)) ?_
                                  refine lv_iload hx hb dL_isKept_273 (lv_at hl 2 rfl) ?_
                                  refine lv_icmp_ne (tgt := 282) hx hb dL_isKept_275 (by decide) (fun c275 => ?_) (fun c275 => ?_)
                                  · have c275n : b9 ≠ b9 := ft_neN (by omega) (by omega) c275
                                    exact absurd rfl c275
                                  · have c275n : b9 = b9 := ft_eqN (by omega) (by omega) c275
                                    exact jn278 u270 (by exact hO) _ _ hP hD hS ls (lv_sub hl [0, 1, 2, 3, 4, 5, 6, 7, 8, 9, 10, 11, 12] rfl)
                      refine lv_iload hx hb dL_isKept_168 (lv_at hl 0 rfl) ?_
                      refine lv_if_ge (tgt := 179) hx hb dL_isKept_170 (by decide) (fun c170 => ?_) (fun c170 => ?_)
                      · refine lv_iload hx hb dL_isKept_179 (lv_at hl 0 rfl) ?_
                        refine ft_top (y := lxDf w v9 X) (lx_absD c170) ?_
                        exact jn181   _ _ hP hD hS ls (lv_sub hl [0, 1, 2, 3, 4, 5, 6, 7, 8] rfl)
                      · refine lv_iload hx hb dL_isKept_173 (lv_at hl 0 rfl) ?_
                        refine lv_ineg hx hb dL_isKept_175 ?_
                        refine lv_goto (tgt := 181) hx hb dL_isKept_176 (by decide) ?_
                        refine ft_top (y := lxDf w v9 X) (lx_absN c170) ?_
                        exact jn181   _ _ hP hD hS ls (lv_sub hl [0, 1, 2, 3, 4, 5, 6, 7, 8] rfl)
  refine lv_iload_n hx hb dL_isKept_7 rfl (lv_at hl 0 rfl) ?_
  refine lv_iconst (v := 3) hx hb dL_isKept_8 (by decide) ?_
  refine lv_icmp_ne (tgt := 16) hx hb dL_isKept_9 (by decide) (fun c9 => ?_) (fun c9 => ?_)
  · have c9n : (ftCK w) ≠ 3 := ft_neN (by omega) (by omega) c9
    refine lv_iload_n hx hb dL_isKept_16 rfl (lv_at hl 0 rfl) ?_
    refine lv_iconst (v := 1) hx hb dL_isKept_17 (by decide) ?_
    refine lv_iadd hx hb dL_isKept_18 ?_
    refine ft_top (y := nI ((ftCK w) + 1)) (ft_addN (ftCK w) 1) ?_
    refine ft_top (y := nI (ftKk w + 1)) (lxKk_f c9n) ?_
    exact jn19   _ _ hP hD hS ls (lv_sub hl [0, 1, 2] rfl)
  · have c9n : (ftCK w) = 3 := ft_eqN (by omega) (by omega) c9
    refine lv_iconst (v := 3) hx hb dL_isKept_12 (by decide) ?_
    refine lv_goto (tgt := 19) hx hb dL_isKept_13 (by decide) ?_
    refine ft_top (y := nI (ftKk w + 1)) (lxKk_t c9n) ?_
    exact jn19   _ _ hP hD hS ls (lv_sub hl [0, 1, 2] rfl)
