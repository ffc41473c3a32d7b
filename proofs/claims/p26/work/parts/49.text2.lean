/-! the class's texts: items -/
theorem ftTd_put {td : Nat → Int32} {h j : Nat} (hj : j < 6) (hh : h < 64) (hT : ftTd td h) : ftTd (ftPut 3 td (nI j) 1) (h ||| 2 ^ j) := by
  intro i hi
  rw [ftTd_or h hh j hj i hi]
  rcases Nat.lt_or_ge j 3 with c | c
  · rw [ftPut_N c (by omega)]
    by_cases z : i = j
    · subst z; rw [ftUpd_at0, if_pos rfl]; rfl
    · rw [ftUpd_ne z, if_neg z]; exact hT i hi
  · rw [ftPut_out (fun q => q (Or.inr (by rw [nI_clamp (by omega)]; exact c))), if_neg (by omega)]
    exact hT i hi
set_option maxHeartbeats 4000000 in
set_option maxRecDepth 100000 in
theorem c_X5_isInRange (l : Launch) (D : va_G) (cI cS : ClassId) (a0 ag am ad b0 : Nat) (tn : Nat) (v1 v2 v3 : Int32) (v4 : Int32) (len att en : Int32) (n bk bp bl br : Nat) (j i : Nat) (q7 : Int32) (hj : j < 6) (hi : i < 3) (hi2 : i = 2 → j = 4) : Met l yX5_isInRange wsX5_isInRange ({ frames := 2, cells := 0, slots := 0, locals := 43 }) (ftRO D cI cS [.ref a0, .int (nI j), .int (nI i), .int q7] [(a0, .inr (5, [.ref ag, .ref am, .ref ad, .ref b0, .int (nI tn), .int v1, .int v2, .int v3, .int v4])), (b0, .inr (4, [.int len, .int att, .int en, .int (nI n), .ref bk, .ref bp, .ref bl, .ref br]))]) (vp_Si (fun o9 => o9 = ftB (ftRt (nI j) i q7 len))) 0 0 (fun _ => False) := by
  refine Met.ofW (cc := cX5_isInRange) (maxL := 5) (ret := (some .boolean)) (by decide) rfl ?_
  intro p e s m args below meth c s₁ B hml hv
  obtain ⟨rfl, hP, hKK⟩ := hv
  have hK := hKK.1
  have hx := B.exec
  have hb := B.bytes
  have hr := B.returns
  have hts := atoms_spec (ws := wsX5_isInRange) B.pre
  have hown : s.vm.findClass RX5 = some m.cls := findClass_of_methodNamed B.named
  have hlocks := B.notSynchronized
  have hP : va_P D vwCl [(a0, .inr (5, [.ref ag, .ref am, .ref ad, .ref b0, .int (nI tn), .int v1, .int v2, .int v3, .int v4])), (b0, .inr (4, [.int len, .int att, .int en, .int (nI n), .ref bk, .ref bp, .ref bl, .ref br]))] s.heap := hP
  have hl := lv_entry ([.ref a0, .int (nI j), .int (nI i), .int q7]) (n := 5) (Nat.le_of_ble_eq_true rfl)
  rw [lg_entry_eq]
  generalize (lg_sl ([.ref a0, .int (nI j), .int (nI i), .int q7]) ++ List.replicate (5 - (lg_sl ([.ref a0, .int (nI j), .int (nI i), .int q7])).length) Slot.unset).toArray = ls at hl ⊢
  have hl : lv_has ls 5 [(0, .ref a0), (1, .int (nI j)), (2, .int (nI i)), (3, .int q7)] := hl
  refine lv_iload_n hx hb dX5_isInRange_0 rfl (lv_at hl 1 rfl) ?_
  by_cases c1_0 : (nI j) = 0
  · refine lv_tableIn (off := 27) (tgt := 28) hx hb dX5_isInRange_1 (by rw [c1_0]; decide) (by rw [c1_0]; decide) (by rw [c1_0]; decide) (by decide) ?_
    refine lv_iload_n hx hb dX5_isInRange_28 rfl (lv_at hl 3 rfl) ?_
    refine lv_bipush (v := 50) hx hb dX5_isInRange_29 (by decide) ?_
    refine lv_sipush (v := 400) hx hb dX5_isInRange_31 (by decide) ?_
    refine ft_csi (r := ftB (50 ≤ q7 ∧ q7 ≤ 400)) (va_runSN (As := [.int q7, .int 50, .int 400]) (rest := []) ⟨hx, hb, hml, hown, hts⟩ (c_X10_isWithin l D cI cS q7 50 400) ⟨va_cnB 3 hts gX5_isInRange_X10_isWithin_n115 rfl rfl rfl (hKK.2 _ (List.mem_of_getElem? (i := 9) rfl)) (hts (.initialized RX10) (by decide +kernel)) (by decide +kernel) ⟨Nat.le_of_ble_eq_true rfl, Nat.le_of_ble_eq_true rfl⟩, hts (.static yX10_isWithin) (by decide +kernel), trivial⟩ (ft_preRO hP hKK [] rfl) rfl rfl hl.1 rfl (lv_room (Nat.le_of_ble_eq_true rfl)) dX5_isInRange_34 ⟨Nat.le_of_ble_eq_true rfl, Nat.le_of_ble_eq_true rfl⟩) ?_
    exact W.zret (v := ftB (50 ≤ q7 ∧ q7 ≤ 400)) hx hb hr (by first | rfl | exact ftB_nar) (fun t ht hW => ⟨ftB (50 ≤ q7 ∧ q7 ≤ 400), rfl, (by show (ftB (50 ≤ q7 ∧ q7 ≤ 400) : Int32) = ftB (ftRt (nI j) i q7 len); rw [ftRt, if_pos c1_0]), ht⟩) (fun _ h9 => absurd h9 List.not_mem_nil) dX5_isInRange_37
  by_cases c1_1 : (nI j) = 1
  · refine lv_tableIn (off := 37) (tgt := 38) hx hb dX5_isInRange_1 (by rw [c1_1]; decide) (by rw [c1_1]; decide) (by rw [c1_1]; decide) (by decide) ?_
    refine lv_iload_n hx hb dX5_isInRange_38 rfl (lv_at hl 3 rfl) ?_
    refine lv_iconst (v := 0) hx hb dX5_isInRange_39 (by decide) ?_
    refine lv_bipush (v := 50) hx hb dX5_isInRange_40 (by decide) ?_
    refine ft_csi (r := ftB (0 ≤ q7 ∧ q7 ≤ 50)) (va_runSN (As := [.int q7, .int 0, .int 50]) (rest := []) ⟨hx, hb, hml, hown, hts⟩ (c_X10_isWithin l D cI cS q7 0 50) ⟨va_cnB 3 hts gX5_isInRange_X10_isWithin_n115 rfl rfl rfl (hKK.2 _ (List.mem_of_getElem? (i := 9) rfl)) (hts (.initialized RX10) (by decide +kernel)) (by decide +kernel) ⟨Nat.le_of_ble_eq_true rfl, Nat.le_of_ble_eq_true rfl⟩, hts (.static yX10_isWithin) (by decide +kernel), trivial⟩ (ft_preRO hP hKK [] rfl) rfl rfl hl.1 rfl (lv_room (Nat.le_of_ble_eq_true rfl)) dX5_isInRange_42 ⟨Nat.le_of_ble_eq_true rfl, Nat.le_of_ble_eq_true rfl⟩) ?_
    exact W.zret (v := ftB (0 ≤ q7 ∧ q7 ≤ 50)) hx hb hr (by first | rfl | exact ftB_nar) (fun t ht hW => ⟨ftB (0 ≤ q7 ∧ q7 ≤ 50), rfl, (by show (ftB (0 ≤ q7 ∧ q7 ≤ 50) : Int32) = ftB (ftRt (nI j) i q7 len); rw [ftRt, if_neg c1_0, if_pos c1_1]), ht⟩) (fun _ h9 => absurd h9 List.not_mem_nil) dX5_isInRange_45
  by_cases c1_2 : (nI j) = 2
  · refine lv_tableIn (off := 45) (tgt := 46) hx hb dX5_isInRange_1 (by rw [c1_2]; decide) (by rw [c1_2]; decide) (by rw [c1_2]; decide) (by decide) ?_
    refine lv_iload_n hx hb dX5_isInRange_46 rfl (lv_at hl 3 rfl) ?_
    refine lv_iconst (v := 0) hx hb dX5_isInRange_47 (by decide) ?_
    refine lv_sipush (v := 20000) hx hb dX5_isInRange_48 (by decide) ?_
    refine ft_csi (r := ftB (0 ≤ q7 ∧ q7 ≤ 20000)) (va_runSN (As := [.int q7, .int 0, .int 20000]) (rest := []) ⟨hx, hb, hml, hown, hts⟩ (c_X10_isWithin l D cI cS q7 0 20000) ⟨va_cnB 3 hts gX5_isInRange_X10_isWithin_n115 rfl rfl rfl (hKK.2 _ (List.mem_of_getElem? (i := 9) rfl)) (hts (.initialized RX10) (by decide +kernel)) (by decide +kernel) ⟨Nat.le_of_ble_eq_true rfl, Nat.le_of_ble_eq_true rfl⟩, hts (.static yX10_isWithin) (by decide +kernel), trivial⟩ (ft_preRO hP hKK [] rfl) rfl rfl hl.1 rfl (lv_room (Nat.le_of_ble_eq_true rfl)) dX5_isInRange_51 ⟨Nat.le_of_ble_eq_true rfl, Nat.le_of_ble_eq_true rfl⟩) ?_
    exact W.zret (v := ftB (0 ≤ q7 ∧ q7 ≤ 20000)) hx hb hr (by first | rfl | exact ftB_nar) (fun t ht hW => ⟨ftB (0 ≤ q7 ∧ q7 ≤ 20000), rfl, (by show (ftB (0 ≤ q7 ∧ q7 ≤ 20000) : Int32) = ftB (ftRt (nI j) i q7 len); rw [ftRt, if_neg c1_0, if_neg c1_1, if_pos c1_2]), ht⟩) (fun _ h9 => absurd h9 List.not_mem_nil) dX5_isInRange_54
  have c1_0i := lv_neT (a := 0) c1_0 (by decide)
  have c1_1i := lv_neT (a := 1) c1_1 (by decide)
  have c1_2i := lv_neT (a := 2) c1_2 (by decide)
  refine lv_tableOut (tgt := 55) hx hb dX5_isInRange_1 (by omega) (by decide) ?_
  have hj3 : 3 ≤ j := by
    have q0 : j ≠ 0 := fun q => c1_0 (by rw [q]; rfl)
    have q1 : j ≠ 1 := fun q => c1_1 (by rw [q]; rfl)
    have q2 : j ≠ 2 := fun q => c1_2 (by rw [q]; rfl)
    omega
  refine lv_iload_n hx hb dX5_isInRange_55 rfl (lv_at hl 1 rfl) ?_
  refine lv_iconst (v := 3) hx hb dX5_isInRange_56 (by decide) ?_
  refine lv_isub hx hb dX5_isInRange_57 ?_
  refine lv_istore (lv' := [(4, .int ((nI j) - 3)), (0, .ref a0), (1, .int (nI j)), (2, .int (nI i)), (3, .int q7)]) hx hb dX5_isInRange_58 hl (by decide) rfl (fun ls hl => ?_)
  refine lv_iload_n hx hb dX5_isInRange_60 rfl (lv_at hl 3 rfl) ?_
  by_cases c61_0 : (nI i) = 0
  · refine lv_lookup (off := 27) (tgt := 88) hx hb dX5_isInRange_61 (by decide) (by rw [c61_0]; decide) (by decide) ?_
    have hi9 : i = 0 := ft_eqN (by omega) (by omega) c61_0
    refine lv_aload_n hx hb dX5_isInRange_88 rfl (lv_at hl 1 rfl) ?_
    refine va_get (D := D) (ci := 5) (v := .ref b0) (C := RX5) (T := TX5) (N := 9) hx hb hts (by decide +kernel) hown hK hP 0 rfl rfl 3 (by decide) (hts (.fieldLink RX5 24 "FiberTrace$LinkText" "link" "LFiberTrace$Link;") (by decide +kernel)) (fun _ h9 => h9) rfl dX5_isInRange_89 ?_
    refine lv_iload_n hx hb dX5_isInRange_92 rfl (lv_at hl 4 rfl) ?_
    refine ft_csi (r := ftB (1 ≤ q7 ∧ q7 ≤ len - 1)) (va_runV (C := RX4) (As := [.int q7]) (rest := []) ⟨hx, hb, hml, hown, hts⟩ (c_X4_placeFits l D cI cS b0 len att en n bk bp bl br q7) (cwV 1 hts gX5_isInRange_X4_placeFits rfl rfl rfl (by decide +kernel) ⟨Nat.le_of_ble_eq_true rfl, Nat.le_of_ble_eq_true rfl⟩) (ft_preROV (ci := 4) (q0 := 1) hP hKK [1] rfl rfl rfl) rfl rfl hl.1 rfl (lv_room (Nat.le_of_ble_eq_true rfl)) dX5_isInRange_93 ⟨Nat.le_of_ble_eq_true rfl, Nat.le_of_ble_eq_true rfl⟩) ?_
    exact W.zret (v := ftB (1 ≤ q7 ∧ q7 ≤ len - 1)) hx hb hr (by first | rfl | exact ftB_nar) (fun t ht hW => ⟨ftB (1 ≤ q7 ∧ q7 ≤ len - 1), rfl, (by show (ftB (1 ≤ q7 ∧ q7 ≤ len - 1) : Int32) = ftB (ftRt (nI j) i q7 len); rw [ftRt, if_neg c1_0, if_neg c1_1, if_neg c1_2, if_pos hi9]), ht⟩) (fun _ h9 => absurd h9 List.not_mem_nil) dX5_isInRange_96
  by_cases c61_1 : (nI i) = 1
  · refine lv_lookup (off := 36) (tgt := 97) hx hb dX5_isInRange_61 (by decide) (by rw [c61_1]; decide) (by decide) ?_
    have hi9 : i = 1 := ft_eqN (by omega) (by omega) c61_1
    refine lv_iload hx hb dX5_isInRange_97 (lv_at hl 0 rfl) ?_
    refine lv_iload_n hx hb dX5_isInRange_99 rfl (lv_at hl 4 rfl) ?_
    refine ft_csi (r := ftB (ftLossFits ((nI j) - 3) q7)) (va_runS (As := [.int ((nI j) - 3), .int q7]) (rest := []) ⟨hx, hb, hml, hown, hts⟩ (c_X4_lossFits l D cI cS ((nI j) - 3) q7) (va_cwS 2 hts gX5_isInRange_X4_lossFits rfl rfl rfl (by decide +kernel) ⟨Nat.le_of_ble_eq_true rfl, Nat.le_of_ble_eq_true rfl⟩) (ft_preRO hP hKK [] rfl) rfl rfl hl.1 rfl (lv_room (Nat.le_of_ble_eq_true rfl)) dX5_isInRange_100 ⟨Nat.le_of_ble_eq_true rfl, Nat.le_of_ble_eq_true rfl⟩) ?_
    exact W.zret (v := ftB (ftLossFits ((nI j) - 3) q7)) hx hb hr (by first | rfl | exact ftB_nar) (fun t ht hW => ⟨ftB (ftLossFits ((nI j) - 3) q7), rfl, (by show (ftB (ftLossFits ((nI j) - 3) q7) : Int32) = ftB (ftRt (nI j) i q7 len); rw [hi9]; exact ftB_congr (ftLoss_j len j hj3 hj q7)), ht⟩) (fun _ h9 => absurd h9 List.not_mem_nil) dX5_isInRange_103
  have c61_0i := lv_neT (a := 0) c61_0 (by decide)
  have c61_1i := lv_neT (a := 1) c61_1 (by decide)
  refine lv_lookup (off := 43) (tgt := 104) hx hb dX5_isInRange_61 (by decide) (by simp [Op.lookupswitch.offset, c61_0i, Ne.symm c61_0i, c61_1i, Ne.symm c61_1i]) (by decide) ?_
  have hi9 : i = 2 := by
    have q0 : i ≠ 0 := fun q => c61_0 (by rw [q]; rfl)
    have q1 : i ≠ 1 := fun q => c61_1 (by rw [q]; rfl)
    omega
  have hj4 := hi2 hi9
  refine lv_iload hx hb dX5_isInRange_104 (lv_at hl 0 rfl) ?_
  refine lv_iload_n hx hb dX5_isInRange_106 rfl (lv_at hl 4 rfl) ?_
  refine ft_csi (r := ftB (ftReflFits ((nI j) - 3) q7)) (va_runS (As := [.int ((nI j) - 3), .int q7]) (rest := []) ⟨hx, hb, hml, hown, hts⟩ (c_X4_reflectionFits l D cI cS ((nI j) - 3) q7) (va_cwS 2 hts gX5_isInRange_X4_reflectionFits rfl rfl rfl (by decide +kernel) ⟨Nat.le_of_ble_eq_true rfl, Nat.le_of_ble_eq_true rfl⟩) (ft_preRO hP hKK [] rfl) rfl rfl hl.1 rfl (lv_room (Nat.le_of_ble_eq_true rfl)) dX5_isInRange_107 ⟨Nat.le_of_ble_eq_true rfl, Nat.le_of_ble_eq_true rfl⟩) ?_
  exact W.zret (v := ftB (ftReflFits ((nI j) - 3) q7)) hx hb hr (by first | rfl | exact ftB_nar) (fun t ht hW => ⟨ftB (ftReflFits ((nI j) - 3) q7), rfl, (by show (ftB (ftReflFits ((nI j) - 3) q7) : Int32) = ftB (ftRt (nI j) i q7 len); rw [hi9, hj4]; exact ftB_congr (ftRefl_j len q7)), ht⟩) (fun _ h9 => absurd h9 List.not_mem_nil) dX5_isInRange_110
set_option maxHeartbeats 4000000 in
set_option maxRecDepth 100000 in
theorem c_X5_firstOutside (l : Launch) (D : va_G) (cI cS : ClassId) (a0 ag am ad b0 : Nat) (tn : Nat) (v1 v2 v3 : Int32) (v4 : Int32) (len att en : Int32) (n bk bp bl br : Nat) (nf : Nat → Int32) (j wn : Nat) (hj : j < 6) (hwn : wn ≤ 3) (hw3 : 2 < wn → j = 4) : Met l yX5_firstOutside wsX5_firstOutside ({ frames := 3, cells := 0, slots := 0, locals := 67 }) (ftRO D cI cS [.ref a0, .int (nI j), .int (nI wn)] [(a0, .inr (5, [.ref ag, .ref am, .ref ad, .ref b0, .int (nI tn), .int v1, .int v2, .int v3, .int v4])), (am, .inl (cI, 3, .inl nf)), (b0, .inr (4, [.int len, .int att, .int en, .int (nI n), .ref bk, .ref bp, .ref bl, .ref br]))]) (vp_Si (fun o9 => o9 = ftFst (fun i => ¬ ftRt (nI j) i (nf i) len) wn)) 0 0 (fun _ => False) := by
  refine Met.ofW (cc := cX5_firstOutside) (maxL := 4) (ret := (some .int)) (by decide) rfl ?_
  intro p e s m args below meth c s₁ B hml hv
  obtain ⟨rfl, hP, hKK⟩ := hv
  have hK := hKK.1
  have hx := B.exec
  have hb := B.bytes
  have hr := B.returns
  have hts := atoms_spec (ws := wsX5_firstOutside) B.pre
  have hown : s.vm.findClass RX5 = some m.cls := findClass_of_methodNamed B.named
  have hlocks := B.notSynchronized
  have hP : va_P D vwCl [(a0, .inr (5, [.ref ag, .ref am, .ref ad, .ref b0, .int (nI tn), .int v1, .int v2, .int v3, .int v4])), (am, .inl (cI, 3, .inl nf)), (b0, .inr (4, [.int len, .int att, .int en, .int (nI n), .ref bk, .ref bp, .ref bl, .ref br]))] s.heap := hP
  have hl := lv_entry ([.ref a0, .int (nI j), .int (nI wn)]) (n := 4) (Nat.le_of_ble_eq_true rfl)
  rw [lg_entry_eq]
  generalize (lg_sl ([.ref a0, .int (nI j), .int (nI wn)]) ++ List.replicate (4 - (lg_sl ([.ref a0, .int (nI j), .int (nI wn)])).length) Slot.unset).toArray = ls at hl ⊢
  have hl : lv_has ls 4 [(0, .ref a0), (1, .int (nI j)), (2, .int (nI wn))] := hl
  refine lv_iconst (v := 0) hx hb dX5_firstOutside_0 (by decide) ?_
  refine lv_istore_n (lv' := [(3, .int 0), (0, .ref a0), (1, .int (nI j)), (2, .int (nI wn))]) hx hb dX5_firstOutside_1 rfl hl (by decide) rfl (fun ls hl => ?_)
  have lp2 : ∀ (n2 : Nat) (i : Nat) (x2_3 : Int32), wn - i < n2 → (i ≤ wn) → (∀ t, t < i → ¬ ¬ ftRt (nI j) t (nf t) len) → x2_3 = nI i → ∀ ls : Array Slot, lv_has ls 4 [(0, .ref a0), (1, .int (nI j)), (2, .int (nI wn)), (3, .int x2_3)] → W p l e (headSpec wsX5_firstOutside { frames := 3, cells := 0, slots := 0, locals := 67 }).room s m ([.ref a0, .int (nI j), .int (nI wn)] : List Value).toArray below meth c s.heap [] 0 0 (MQ below (vp_Si (fun o9 => o9 = ftFst (fun i => ¬ ftRt (nI j) i (nf i) len) wn)) ([.ref a0, .int (nI j), .int (nI wn)] : List Value).toArray s 0 0 (fun _ => False)) (F0 m 2 ls []) := by
    intro n2
    induction n2 with
    | zero =>
      intro i x2_3  hm2
      exact absurd hm2 (Nat.not_lt_zero _)
    | succ n2 ih2 =>
      intro i x2_3  hm2 hin hok ex2_3  ls hl
      subst ex2_3
      refine lv_iload_n hx hb dX5_firstOutside_2 rfl (lv_at hl 3 rfl) ?_
      refine lv_iload_n hx hb dX5_firstOutside_3 rfl (lv_at hl 2 rfl) ?_
      refine lv_icmp_ge (tgt := 32) hx hb dX5_firstOutside_4 (by decide) (fun c4 => ?_) (fun c4 => ?_)
      · have c4n : wn ≤ i := ft_leN (by omega) (by omega) c4
        refine lv_iconst (v := (-1)) hx hb dX5_firstOutside_32 (by decide) ?_
        exact W.iret (v := (-1)) hx hb hr (fun t ht hW => ⟨(-1), rfl, (by show ((-1) : Int32) = ftFst (fun i => ¬ ftRt (nI j) i (nf i) len) wn; (obtain rfl : i = wn := by omega); exact (ftFst_none hok).symm), ht⟩) (fun _ h9 => absurd h9 List.not_mem_nil) dX5_firstOutside_33
      · have c4n : i < wn := ft_nleN (by omega) (by omega) c4
        refine lv_aload_n hx hb dX5_firstOutside_7 rfl (lv_at hl 0 rfl) ?_
        refine lv_iload_n hx hb dX5_firstOutside_8 rfl (lv_at hl 1 rfl) ?_
        refine lv_iload_n hx hb dX5_firstOutside_9 rfl (lv_at hl 3 rfl) ?_
        refine lv_aload_n hx hb dX5_firstOutside_10 rfl (lv_at hl 0 rfl) ?_
        refine va_get (D := D) (ci := 5) (v := .ref am) (C := RX5) (T := TX5) (N := 9) hx hb hts (by decide +kernel) hown hK hP 0 rfl rfl 1 (by decide) (hts (.fieldLink RX5 15 "FiberTrace$LinkText" "numbers" "[I") (by decide +kernel)) (fun _ h9 => h9) rfl dX5_firstOutside_11 ?_
        refine lv_iload_n hx hb dX5_firstOutside_14 rfl (lv_at hl 3 rfl) ?_
        refine ft_csi (r := ftAt 3 nf (nI i)) (va_runSN (As := [.ref am, .int (nI i)]) (rest := [.int (nI i), .int (nI j), .ref a0]) ⟨hx, hb, hml, hown, hts⟩ (c_X10_at l D cI cS am 3 nf (nI i) (by first | assumption | omega)) ⟨va_cnB 2 hts gX5_firstOutside_X10_at_n93 rfl rfl rfl (hKK.2 _ (List.mem_of_getElem? (i := 8) rfl)) (hts (.initialized RX10) (by decide +kernel)) (by decide +kernel) ⟨Nat.le_of_ble_eq_true rfl, Nat.le_of_ble_eq_true rfl⟩, hts (.static yX10_at) (by decide +kernel), trivial⟩ (ft_preRO hP hKK [1] rfl) rfl rfl hl.1 rfl (lv_room (Nat.le_of_ble_eq_true rfl)) dX5_firstOutside_15 ⟨Nat.le_of_ble_eq_true rfl, Nat.le_of_ble_eq_true rfl⟩) ?_
        refine ft_top (y := nf i) (ftAt_N (by omega) (by omega)) ?_
        refine ft_csi (r := ftB (ftRt (nI j) i (nf i) len)) (va_runV (C := RX5) (As := [.int (nI j), .int (nI i), .int (nf i)]) (rest := []) ⟨hx, hb, hml, hown, hts⟩ (c_X5_isInRange l D cI cS a0 ag am ad b0 tn v1 v2 v3 v4 len att en n bk bp bl br j i (nf i) hj (by omega) (by omega)) (cwV 3 hts gX5_firstOutside_X5_isInRange rfl rfl rfl (by decide +kernel) ⟨Nat.le_of_ble_eq_true rfl, Nat.le_of_ble_eq_true rfl⟩) (ft_preROV (ci := 5) (q0 := 0) hP hKK [0, 2] rfl rfl rfl) rfl rfl hl.1 rfl (lv_room (Nat.le_of_ble_eq_true rfl)) dX5_firstOutside_18 ⟨Nat.le_of_ble_eq_true rfl, Nat.le_of_ble_eq_true rfl⟩) ?_
        refine lv_if_ne (tgt := 26) hx hb dX5_firstOutside_21 (by decide) (fun c21 => ?_) (fun c21 => ?_)
        · replace c21 := ftB_ne c21
          refine lv_iinc (v := nI (i + 1)) (lv' := [(3, .int (nI (i + 1))), (0, .ref a0), (1, .int (nI j)), (2, .int (nI wn))]) hx hb dX5_firstOutside_26 hl (k := 3) rfl (ft_inc i) (by decide) rfl (fun ls hl => ?_)
          refine lv_goto (tgt := 2) hx hb dX5_firstOutside_29 (by decide) ?_
          exact ih2 (i + 1) (nI (i + 1))  (by omega) (by omega) (by intro t ht; rcases Nat.lt_succ_iff_lt_or_eq.mp ht with q | q; exact hok t q; subst q; exact fun q9 => q9 c21) (by first | rfl | assumption)  ls (lv_sub hl [1, 2, 3, 0] rfl)
        · replace c21 := ftB_eq c21
          refine lv_iload_n hx hb dX5_firstOutside_24 rfl (lv_at hl 3 rfl) ?_
          exact W.iret (v := nI i) hx hb hr (fun t ht hW => ⟨nI i, rfl, (by show (nI i : Int32) = ftFst (fun i => ¬ ftRt (nI j) i (nf i) len) wn; exact (ftFst_some (P := fun i => ¬ ftRt (nI j) i (nf i) len) (by omega) c21 hok wn (by omega)).symm), ht⟩) (fun _ h9 => absurd h9 List.not_mem_nil) dX5_firstOutside_25
  exact lp2 _ 0 0  (Nat.lt_succ_self _) (by omega) (by intro t ht; exact absurd ht (Nat.not_lt_zero t)) (by rfl) ls (lv_sub hl [1, 2, 3, 0] rfl)
set_option maxHeartbeats 4000000 in
set_option maxRecDepth 100000 in
theorem c_X5_isAllowed (l : Launch) (D : va_G) (cI cS : ClassId) (a0 ag am ad b0 : Nat) (tn : Nat) (v1 v2 v3 : Int32) (v4 : Int32) (len att en : Int32) (n bk bp bl br : Nat) (kf pf lf rf : Nat → Int32) (nf td mm : Nat → Int32) (j h : Nat) (hj : j < 6) (hh : h < 64) (hLR : ftLR mm len att en n kf pf lf rf) (hTd : ftTd td h) : Met l yX5_isAllowed wsX5_isAllowed ({ frames := 2, cells := 0, slots := 0, locals := 43 }) (ftRO D cI cS [.ref a0, .int (nI j)] [(a0, .inr (5, [.ref ag, .ref am, .ref ad, .ref b0, .int (nI tn), .int v1, .int v2, .int v3, .int v4])), (am, .inl (cI, 3, .inl nf)), (ad, .inl (cI, 3, .inl td)), (b0, .inr (4, [.int len, .int att, .int en, .int (nI n), .ref bk, .ref bp, .ref bl, .ref br])), (bk, .inl (cI, 10, .inl kf)), (bp, .inl (cI, 10, .inl pf)), (bl, .inl (cI, 10, .inl lf)), (br, .inl (cI, 10, .inl rf))]) (vp_Si (fun o9 => o9 = ftB (ftAl (nI j) mm h (nf 0)))) 0 0 (fun _ => False) := by
  refine Met.ofW (cc := cX5_isAllowed) (maxL := 2) (ret := (some .boolean)) (by decide) rfl ?_
  intro p e s m args below meth c s₁ B hml hv
  obtain ⟨rfl, hP, hKK⟩ := hv
  have hK := hKK.1
  have hx := B.exec
  have hb := B.bytes
  have hr := B.returns
  have hts := atoms_spec (ws := wsX5_isAllowed) B.pre
  have hown : s.vm.findClass RX5 = some m.cls := findClass_of_methodNamed B.named
  have hlocks := B.notSynchronized
  have hP : va_P D vwCl [(a0, .inr (5, [.ref ag, .ref am, .ref ad, .ref b0, .int (nI tn), .int v1, .int v2, .int v3, .int v4])), (am, .inl (cI, 3, .inl nf)), (ad, .inl (cI, 3, .inl td)), (b0, .inr (4, [.int len, .int att, .int en, .int (nI n), .ref bk, .ref bp, .ref bl, .ref br])), (bk, .inl (cI, 10, .inl kf)), (bp, .inl (cI, 10, .inl pf)), (bl, .inl (cI, 10, .inl lf)), (br, .inl (cI, 10, .inl rf))] s.heap := hP
  have hl := lv_entry ([.ref a0, .int (nI j)]) (n := 2) (Nat.le_of_ble_eq_true rfl)
  rw [lg_entry_eq]
  generalize (lg_sl ([.ref a0, .int (nI j)]) ++ List.replicate (2 - (lg_sl ([.ref a0, .int (nI j)])).length) Slot.unset).toArray = ls at hl ⊢
  have hl : lv_has ls 2 [(0, .ref a0), (1, .int (nI j))] := hl
  have hn := hLR.2.2.2.2.1
  have hm3 := hLR.2.2.2.1
  have hcn : (mm 3).toNatClampNeg = n := ftLR_n hLR
  refine lv_iload_n hx hb dX5_isAllowed_0 rfl (lv_at hl 1 rfl) ?_
  refine lv_iconst (v := 3) hx hb dX5_isAllowed_1 (by decide) ?_
  refine lv_icmp_ge (tgt := 32) hx hb dX5_isAllowed_2 (by decide) (fun c2 => ?_) (fun c2 => ?_)
  · have c2n : 3 ≤ j := ft_leN (by omega) (by omega) c2
    have hl3 : ¬ nI j < 3 := Int32.not_lt.mpr c2
    refine lv_aload_n hx hb dX5_isAllowed_32 rfl (lv_at hl 0 rfl) ?_
    refine va_get (D := D) (ci := 5) (v := .ref b0) (C := RX5) (T := TX5) (N := 9) hx hb hts (by decide +kernel) hown hK hP 0 rfl rfl 3 (by decide) (hts (.fieldLink RX5 24 "FiberTrace$LinkText" "link" "LFiberTrace$Link;") (by decide +kernel)) (fun _ h9 => h9) rfl dX5_isAllowed_33 ?_
    refine lv_aload_n hx hb dX5_isAllowed_36 rfl (lv_at hl 0 rfl) ?_
    refine va_get (D := D) (ci := 5) (v := .ref am) (C := RX5) (T := TX5) (N := 9) hx hb hts (by decide +kernel) hown hK hP 0 rfl rfl 1 (by decide) (hts (.fieldLink RX5 15 "FiberTrace$LinkText" "numbers" "[I") (by decide +kernel)) (fun _ h9 => h9) rfl dX5_isAllowed_37 ?_
    refine lv_iconst (v := 0) hx hb dX5_isAllowed_40 (by decide) ?_
    refine ft_csi (r := ftAt 3 nf 0) (va_runSN (As := [.ref am, .int 0]) (rest := [.ref b0]) ⟨hx, hb, hml, hown, hts⟩ (c_X10_at l D cI cS am 3 nf 0 (by first | assumption | omega)) ⟨va_cnB 2 hts gX5_isAllowed_X10_at_n93 rfl rfl rfl (hKK.2 _ (List.mem_of_getElem? (i := 8) rfl)) (hts (.initialized RX10) (by decide +kernel)) (by decide +kernel) ⟨Nat.le_of_ble_eq_true rfl, Nat.le_of_ble_eq_true rfl⟩, hts (.static yX10_at) (by decide +kernel), trivial⟩ (ft_preRO hP hKK [1] rfl) rfl rfl hl.1 rfl (lv_room (Nat.le_of_ble_eq_true rfl)) dX5_isAllowed_41 ⟨Nat.le_of_ble_eq_true rfl, Nat.le_of_ble_eq_true rfl⟩) ?_
    refine ft_top (y := nf 0) (ftAt_N (k := 0) (by omega) (by omega)) ?_
    refine ft_csi (r := ftB (∃ i, i < n ∧ pf i = (nf 0))) (va_runV (C := RX4) (As := [.int (nf 0)]) (rest := []) ⟨hx, hb, hml, hown, hts⟩ (c_X4_hasPartAt l D cI cS b0 len att en n bk bp bl br pf (nf 0) (by first | assumption | omega)) (cwV 1 hts gX5_isAllowed_X4_hasPartAt rfl rfl rfl (by decide +kernel) ⟨Nat.le_of_ble_eq_true rfl, Nat.le_of_ble_eq_true rfl⟩) (ft_preROV (ci := 4) (q0 := 3) hP hKK [3, 5] rfl rfl rfl) rfl rfl hl.1 rfl (lv_room (Nat.le_of_ble_eq_true rfl)) dX5_isAllowed_44 ⟨Nat.le_of_ble_eq_true rfl, Nat.le_of_ble_eq_true rfl⟩) ?_
    refine lv_if_ne (tgt := 66) hx hb dX5_isAllowed_47 (by decide) (fun c47 => ?_) (fun c47 => ?_)
    · replace c47 := ftB_ne c47
      have hv9 : ftB (ftAl (nI j) mm h (nf 0)) = 0 := ftB_f (fun q => by
        obtain ⟨t9, ht9, hte⟩ := c47
        exact (q.2 hl3).1 ⟨t9, by rw [hcn]; exact ht9, by rw [(hLR.2.2.2.2.2 t9 ht9).2.1]; exact hte⟩)
      refine lv_iconst (v := 0) hx hb dX5_isAllowed_66 (by decide) ?_
      exact W.zret (v := 0) hx hb hr (by rfl) (fun t ht hW => ⟨0, rfl, (by show (0 : Int32) = ftB (ftAl (nI j) mm h (nf 0)); exact hv9.symm), ht⟩) (fun _ h9 => absurd h9 List.not_mem_nil) dX5_isAllowed_67
    · replace c47 := ftB_eq c47
      refine lv_aload_n hx hb dX5_isAllowed_50 rfl (lv_at hl 0 rfl) ?_
      refine va_get (D := D) (ci := 5) (v := .ref b0) (C := RX5) (T := TX5) (N := 9) hx hb hts (by decide +kernel) hown hK hP 0 rfl rfl 3 (by decide) (hts (.fieldLink RX5 24 "FiberTrace$LinkText" "link" "LFiberTrace$Link;") (by decide +kernel)) (fun _ h9 => h9) rfl dX5_isAllowed_51 ?_
      refine va_get (D := D) (ci := 4) (v := .int (nI n)) (C := RX4) (T := TX4) (N := 8) hx hb hts (by decide +kernel) hown hK hP 3 rfl rfl 3 (by decide) (hts (.fieldLink RX5 139 "FiberTrace$Link" "size" "I") (by decide +kernel)) (fun _ h9 => h9) rfl dX5_isAllowed_54 ?_
      refine lv_bipush (v := 10) hx hb dX5_isAllowed_57 (by decide) ?_
      refine lv_icmp_ge (tgt := 66) hx hb dX5_isAllowed_59 (by decide) (fun c59 => ?_) (fun c59 => ?_)
      · have c59n : 10 ≤ n := ft_leN (by omega) (by omega) c59
        have hv9 : ftB (ftAl (nI j) mm h (nf 0)) = 0 := ftB_f (fun q => (q.2 hl3).2 (by rw [hm3, show n = 10 by omega]; rfl))
        refine lv_iconst (v := 0) hx hb dX5_isAllowed_66 (by decide) ?_
        exact W.zret (v := 0) hx hb hr (by rfl) (fun t ht hW => ⟨0, rfl, (by show (0 : Int32) = ftB (ftAl (nI j) mm h (nf 0)); exact hv9.symm), ht⟩) (fun _ h9 => absurd h9 List.not_mem_nil) dX5_isAllowed_67
      · have c59n : n < 10 := ft_nleN (by omega) (by omega) c59
        have hv9 : ftB (ftAl (nI j) mm h (nf 0)) = 1 := ftB_t ⟨fun q => absurd q hl3, fun _ => ⟨fun ⟨t9, ht9, hte⟩ => c47 ⟨t9, by rw [← hcn]; exact ht9, by rw [← (hLR.2.2.2.2.2 t9 (by rw [← hcn]; exact ht9)).2.1]; exact hte⟩, by rw [hm3]; exact fun q => by have := ft_eqN (b := 10) (by omega) (by omega) q; omega⟩⟩
        refine lv_iconst (v := 1) hx hb dX5_isAllowed_62 (by decide) ?_
        refine lv_goto (tgt := 67) hx hb dX5_isAllowed_63 (by decide) ?_
        exact W.zret (v := 1) hx hb hr (by rfl) (fun t ht hW => ⟨1, rfl, (by show (1 : Int32) = ftB (ftAl (nI j) mm h (nf 0)); exact hv9.symm), ht⟩) (fun _ h9 => absurd h9 List.not_mem_nil) dX5_isAllowed_67
  · have c2n : j < 3 := ft_nleN (by omega) (by omega) c2
    have hl3 : nI j < 3 := Int32.not_le.mp c2
    have hj3 := (ft_lt3 hj).mp hl3
    have htd := hTd j hj3
    refine lv_aload_n hx hb dX5_isAllowed_5 rfl (lv_at hl 0 rfl) ?_
    refine va_get (D := D) (ci := 5) (v := .ref ad) (C := RX5) (T := TX5) (N := 9) hx hb hts (by decide +kernel) hown hK hP 0 rfl rfl 2 (by decide) (hts (.fieldLink RX5 18 "FiberTrace$LinkText" "told" "[I") (by decide +kernel)) (fun _ h9 => h9) rfl dX5_isAllowed_6 ?_
    refine lv_iload_n hx hb dX5_isAllowed_9 rfl (lv_at hl 1 rfl) ?_
    refine ft_csi (r := ftAt 3 td (nI j)) (va_runSN (As := [.ref ad, .int (nI j)]) (rest := []) ⟨hx, hb, hml, hown, hts⟩ (c_X10_at l D cI cS ad 3 td (nI j) (by first | assumption | omega)) ⟨va_cnB 2 hts gX5_isAllowed_X10_at_n93 rfl rfl rfl (hKK.2 _ (List.mem_of_getElem? (i := 8) rfl)) (hts (.initialized RX10) (by decide +kernel)) (by decide +kernel) ⟨Nat.le_of_ble_eq_true rfl, Nat.le_of_ble_eq_true rfl⟩, hts (.static yX10_at) (by decide +kernel), trivial⟩ (ft_preRO hP hKK [2] rfl) rfl rfl hl.1 rfl (lv_room (Nat.le_of_ble_eq_true rfl)) dX5_isAllowed_10 ⟨Nat.le_of_ble_eq_true rfl, Nat.le_of_ble_eq_true rfl⟩) ?_
    refine ft_top (y := td j) (ftAt_N (by omega) (by omega)) ?_
    refine lv_if_ne (tgt := 30) hx hb dX5_isAllowed_13 (by decide) (fun c13 => ?_) (fun c13 => ?_)
    · have hv9 : ftB (ftAl (nI j) mm h (nf 0)) = 0 := ftB_f (fun q => by
        have q1 := (q.1 hl3).1
        rw [nI_clamp (by omega)] at q1
        rw [htd] at c13
        exact c13 (by rw [show h / 2 ^ j % 2 = 0 by omega]; rfl))
      refine lv_iconst (v := 0) hx hb dX5_isAllowed_30 (by decide) ?_
      exact W.zret (v := 0) hx hb hr (by rfl) (fun t ht hW => ⟨0, rfl, (by show (0 : Int32) = ftB (ftAl (nI j) mm h (nf 0)); exact hv9.symm), ht⟩) (fun _ h9 => absurd h9 List.not_mem_nil) dX5_isAllowed_31
    · rw [htd] at c13
      have hb0 := ft_eq0N (Nat.lt_of_lt_of_le (Nat.mod_lt _ (by omega)) (by omega)) c13
      refine lv_aload_n hx hb dX5_isAllowed_16 rfl (lv_at hl 0 rfl) ?_
      refine va_get (D := D) (ci := 5) (v := .ref b0) (C := RX5) (T := TX5) (N := 9) hx hb hts (by decide +kernel) hown hK hP 0 rfl rfl 3 (by decide) (hts (.fieldLink RX5 24 "FiberTrace$LinkText" "link" "LFiberTrace$Link;") (by decide +kernel)) (fun _ h9 => h9) rfl dX5_isAllowed_17 ?_
      refine va_get (D := D) (ci := 4) (v := .int (nI n)) (C := RX4) (T := TX4) (N := 8) hx hb hts (by decide +kernel) hown hK hP 3 rfl rfl 3 (by decide) (hts (.fieldLink RX5 139 "FiberTrace$Link" "size" "I") (by decide +kernel)) (fun _ h9 => h9) rfl dX5_isAllowed_20 ?_
      refine lv_if_ne (tgt := 30) hx hb dX5_isAllowed_23 (by decide) (fun c23 => ?_) (fun c23 => ?_)
      · have c23n : n ≠ 0 := ft_neN (by omega) (by omega) c23
        have hv9 : ftB (ftAl (nI j) mm h (nf 0)) = 0 := ftB_f (fun q => by
          have q2 := (q.1 hl3).2
          rw [hm3] at q2
          exact absurd q2 (nI_nle (ft_ne0N c23) (by omega)))
        refine lv_iconst (v := 0) hx hb dX5_isAllowed_30 (by decide) ?_
        exact W.zret (v := 0) hx hb hr (by rfl) (fun t ht hW => ⟨0, rfl, (by show (0 : Int32) = ftB (ftAl (nI j) mm h (nf 0)); exact hv9.symm), ht⟩) (fun _ h9 => absurd h9 List.not_mem_nil) dX5_isAllowed_31
      · have c23n : n = 0 := ft_eqN (by omega) (by omega) c23
        have hv9 : ftB (ftAl (nI j) mm h (nf 0)) = 1 := ftB_t ⟨fun _ => ⟨by rw [nI_clamp (by omega)]; omega, by rw [hm3, c23]; decide⟩, fun q => absurd hl3 q⟩
        refine lv_iconst (v := 1) hx hb dX5_isAllowed_26 (by decide) ?_
        refine lv_goto (tgt := 31) hx hb dX5_isAllowed_27 (by decide) ?_
        exact W.zret (v := 1) hx hb hr (by rfl) (fun t ht hW => ⟨1, rfl, (by show (1 : Int32) = ftB (ftAl (nI j) mm h (nf 0)); exact hv9.symm), ht⟩) (fun _ h9 => absurd h9 List.not_mem_nil) dX5_isAllowed_31
set_option maxHeartbeats 4000000 in
set_option maxRecDepth 100000 in
theorem c_X5_blame (l : Launch) (D : va_G) (cI cS : ClassId) (sz : Nat) (a0 ag am ad b0 : Nat) (tn : Nat) (v1 v2 v3 : Int32) (v4 : Int32) (x y zz : Int32)  : Met l yX5_blame wsX5_blame ({ frames := 0, cells := 0, slots := 0, locals := 0 }) (ftRW D cI cS [.ref a0, .int x, .int y, .int zz] [(a0, .inr (5, [.ref ag, .ref am, .ref ad, .ref b0, .int (nI tn), .int v1, .int v2, .int v3, .int v4]))] sz) (ftQv D [(a0, .inr (5, [.ref ag, .ref am, .ref ad, .ref b0, .int (nI tn), .int v1, .int v2, .int v3, .int v4]))] [(a0, .inr (5, [.ref ag, .ref am, .ref ad, .ref b0, .int (nI tn), .int y, .int x, .int zz, .int v4]))] sz) 0 0 (va_A [(a0, .inr (5, [.ref ag, .ref am, .ref ad, .ref b0, .int (nI tn), .int v1, .int v2, .int v3, .int v4]))] sz) := by
  refine Met.ofW (cc := cX5_blame) (maxL := 4) (ret := none) (by decide) rfl ?_
  intro p e s m args below meth c s₁ B hml hv
  obtain ⟨rfl, hsz, hP, hKK, hD0⟩ := hv
  have hK := hKK.1
  have hx := B.exec
  have hb := B.bytes
  have hr := B.returns
  have hts := atoms_spec (ws := wsX5_blame) B.pre
  have hown : s.vm.findClass RX5 = some m.cls := findClass_of_methodNamed B.named
  have hlocks := B.notSynchronized
  subst hsz
  have hD := hD0.self (sz := s.heap.size)
  generalize hAe : va_A [(a0, .inr (5, [.ref ag, .ref am, .ref ad, .ref b0, .int (nI tn), .int v1, .int v2, .int v3, .int v4]))] s.heap.size = A at hD ⊢
  have hA : ∀ q : Nat, s.heap.size ≤ q → A q := fun q h => by rw [← hAe]; exact Or.inr h
  have hS : va_S A s.heap s.heap [] := va_S.rf
  have hD : va_D A [(a0, .inr (5, [.ref ag, .ref am, .ref ad, .ref b0, .int (nI tn), .int v1, .int v2, .int v3, .int v4]))] := hD
  have hP : va_P D vwCl [(a0, .inr (5, [.ref ag, .ref am, .ref ad, .ref b0, .int (nI tn), .int v1, .int v2, .int v3, .int v4]))] s.heap := hP
  have hl := lv_entry ([.ref a0, .int x, .int y, .int zz]) (n := 4) (Nat.le_of_ble_eq_true rfl)
  rw [lg_entry_eq]
  generalize (lg_sl ([.ref a0, .int x, .int y, .int zz]) ++ List.replicate (4 - (lg_sl ([.ref a0, .int x, .int y, .int zz])).length) Slot.unset).toArray = ls at hl ⊢
  have hl : lv_has ls 4 [(0, .ref a0), (1, .int x), (2, .int y), (3, .int zz)] := hl
  refine lv_aload_n hx hb dX5_blame_0 rfl (lv_at hl 0 rfl) ?_
  refine lv_iload_n hx hb dX5_blame_1 rfl (lv_at hl 1 rfl) ?_
  refine va_put (D := D) (ci := 5) (v := .int x) (ty := .int) (C := RX5) (T := TX5) (N := 9) hx hb hts (by decide +kernel) tyX5 tyX5_ok nmX5 hown hK hP hD hS 0 rfl rfl 6 (by decide) (hts (.fieldLink RX5 87 "FiberTrace$LinkText" "faultPlace" "I") (by decide +kernel)) (fun _ h9 => h9) rfl (by decide +kernel) rfl rfl (Nat.le_of_ble_eq_true rfl) dX5_blame_2 (fun H locs hP hD hS => ?_)
  have hP : va_P D vwCl [(a0, .inr (5, [.ref ag, .ref am, .ref ad, .ref b0, .int (nI tn), .int v1, .int x, .int v3, .int v4]))] H := hP
  have hD : va_D A [(a0, .inr (5, [.ref ag, .ref am, .ref ad, .ref b0, .int (nI tn), .int v1, .int x, .int v3, .int v4]))] := hD
  refine lv_aload_n hx hb dX5_blame_5 rfl (lv_at hl 0 rfl) ?_
  refine lv_iload_n hx hb dX5_blame_6 rfl (lv_at hl 2 rfl) ?_
  refine va_put (D := D) (ci := 5) (v := .int y) (ty := .int) (C := RX5) (T := TX5) (N := 9) hx hb hts (by decide +kernel) tyX5 tyX5_ok nmX5 hown hK hP hD hS 0 rfl rfl 5 (by decide) (hts (.fieldLink RX5 39 "FiberTrace$LinkText" "reason" "I") (by decide +kernel)) (fun _ h9 => h9) rfl (by decide +kernel) rfl rfl (Nat.le_of_ble_eq_true rfl) dX5_blame_7 (fun H locs hP hD hS => ?_)
  have hP : va_P D vwCl [(a0, .inr (5, [.ref ag, .ref am, .ref ad, .ref b0, .int (nI tn), .int y, .int x, .int v3, .int v4]))] H := hP
  have hD : va_D A [(a0, .inr (5, [.ref ag, .ref am, .ref ad, .ref b0, .int (nI tn), .int y, .int x, .int v3, .int v4]))] := hD
  refine lv_aload_n hx hb dX5_blame_10 rfl (lv_at hl 0 rfl) ?_
  refine lv_iload_n hx hb dX5_blame_11 rfl (lv_at hl 3 rfl) ?_
  refine va_put (D := D) (ci := 5) (v := .int zz) (ty := .int) (C := RX5) (T := TX5) (N := 9) hx hb hts (by decide +kernel) tyX5 tyX5_ok nmX5 hown hK hP hD hS 0 rfl rfl 7 (by decide) (hts (.fieldLink RX5 90 "FiberTrace$LinkText" "faultNumber" "I") (by decide +kernel)) (fun _ h9 => h9) rfl (by decide +kernel) rfl rfl (Nat.le_of_ble_eq_true rfl) dX5_blame_12 (fun H locs hP hD hS => ?_)
  have hP : va_P D vwCl [(a0, .inr (5, [.ref ag, .ref am, .ref ad, .ref b0, .int (nI tn), .int y, .int x, .int zz, .int v4]))] H := hP
  have hD : va_D A [(a0, .inr (5, [.ref ag, .ref am, .ref ad, .ref b0, .int (nI tn), .int y, .int x, .int zz, .int v4]))] := hD
  have hw9 : ([(a0, .inr (5, [.ref ag, .ref am, .ref ad, .ref b0, .int (nI tn), .int y, .int x, .int zz, .int v4]))] : va_W) = [(a0, .inr (5, [.ref ag, .ref am, .ref ad, .ref b0, .int (nI tn), .int y, .int x, .int zz, .int v4]))] := rfl
  rw [hw9] at hP hD
  exact W.vret hx hb hr (fun t ht hW => ⟨⟨(), rfl, trivial, by rw [ht]; exact hP, by rw [hAe]; exact hD⟩, by rw [hAe]; exact hS.F ht⟩) hS.2.2 dX5_blame_15
set_option maxHeartbeats 4000000 in
set_option maxRecDepth 100000 in
theorem c_X5_build (l : Launch) (D : va_G) (cI cS : ClassId) (sz : Nat) (a0 ag am ad b0 : Nat) (tn : Nat) (v1 v2 v3 : Int32) (v4 : Int32) (len att en : Int32) (n bk bp bl br : Nat) (kf pf lf rf : Nat → Int32) (nf td mm : Nat → Int32) (j h : Nat) (hj : j < 6) (hh : h < 64) (hLR : ftLR mm len att en n kf pf lf rf) (hTd : ftTd td h) (hLf : ftLf mm) (hAl : ftAl (nI j) mm h (nf 0)) : Met l yX5_build wsX5_build ({ frames := 3, cells := 0, slots := 0, locals := 71 }) (ftRW D cI cS [.ref a0, .int (nI j)] [(a0, .inr (5, [.ref ag, .ref am, .ref ad, .ref b0, .int (nI tn), .int v1, .int v2, .int v3, .int v4])), (am, .inl (cI, 3, .inl nf)), (ad, .inl (cI, 3, .inl td)), (b0, .inr (4, [.int len, .int att, .int en, .int (nI n), .ref bk, .ref bp, .ref bl, .ref br])), (bk, .inl (cI, 10, .inl kf)), (bp, .inl (cI, 10, .inl pf)), (bl, .inl (cI, 10, .inl lf)), (br, .inl (cI, 10, .inl rf))] sz) (ftXv D [(a0, .inr (5, [.ref ag, .ref am, .ref ad, .ref b0, .int (nI tn), .int v1, .int v2, .int v3, .int v4])), (am, .inl (cI, 3, .inl nf)), (ad, .inl (cI, 3, .inl td)), (b0, .inr (4, [.int len, .int att, .int en, .int (nI n), .ref bk, .ref bp, .ref bl, .ref br])), (bk, .inl (cI, 10, .inl kf)), (bp, .inl (cI, 10, .inl pf)), (bl, .inl (cI, 10, .inl lf)), (br, .inl (cI, 10, .inl rf))] sz (fun (u : Nat × (Nat → Int32) × (Nat → Nat → Int32)) => (ftLR (if nI j < 3 then upd mm j (nf 0) else ftAdd mm n (nI j - 3) (nf 0) (nf 1) (if nI j = 4 then nf 2 else 0)) (u.2.1 0) (u.2.1 1) (u.2.1 2) u.1 (u.2.2 1) (u.2.2 2) (u.2.2 3) (u.2.2 4)) ∧ (ftTd (u.2.2 0) (h ||| 2 ^ j))) (fun (u : Nat × (Nat → Int32) × (Nat → Nat → Int32)) => [(a0, .inr (5, [.ref ag, .ref am, .ref ad, .ref b0, .int (nI tn), .int v1, .int v2, .int v3, .int v4])), (am, .inl (cI, 3, .inl nf)), (ad, .inl (cI, 3, .inl (u.2.2 0))), (b0, .inr (4, [.int (u.2.1 0), .int (u.2.1 1), .int (u.2.1 2), .int (nI u.1), .ref bk, .ref bp, .ref bl, .ref br])), (bk, .inl (cI, 10, .inl (u.2.2 1))), (bp, .inl (cI, 10, .inl (u.2.2 2))), (bl, .inl (cI, 10, .inl (u.2.2 3))), (br, .inl (cI, 10, .inl (u.2.2 4)))])) 0 0 (va_A [(a0, .inr (5, [.ref ag, .ref am, .ref ad, .ref b0, .int (nI tn), .int v1, .int v2, .int v3, .int v4])), (am, .inl (cI, 3, .inl nf)), (ad, .inl (cI, 3, .inl td)), (b0, .inr (4, [.int len, .int att, .int en, .int (nI n), .ref bk, .ref bp, .ref bl, .ref br])), (bk, .inl (cI, 10, .inl kf)), (bp, .inl (cI, 10, .inl pf)), (bl, .inl (cI, 10, .inl lf)), (br, .inl (cI, 10, .inl rf))] sz) := by
  refine Met.ofW (cc := cX5_build) (maxL := 4) (ret := none) (by decide) rfl ?_
  intro p e s m args below meth c s₁ B hml hv
  obtain ⟨rfl, hsz, hP, hKK, hD0⟩ := hv
  have hK := hKK.1
  have hx := B.exec
  have hb := B.bytes
  have hr := B.returns
  have hts := atoms_spec (ws := wsX5_build) B.pre
  have hown : s.vm.findClass RX5 = some m.cls := findClass_of_methodNamed B.named
  have hlocks := B.notSynchronized
  subst hsz
  have hD := hD0.self (sz := s.heap.size)
  generalize hAe : va_A [(a0, .inr (5, [.ref ag, .ref am, .ref ad, .ref b0, .int (nI tn), .int v1, .int v2, .int v3, .int v4])), (am, .inl (cI, 3, .inl nf)), (ad, .inl (cI, 3, .inl td)), (b0, .inr (4, [.int len, .int att, .int en, .int (nI n), .ref bk, .ref bp, .ref bl, .ref br])), (bk, .inl (cI, 10, .inl kf)), (bp, .inl (cI, 10, .inl pf)), (bl, .inl (cI, 10, .inl lf)), (br, .inl (cI, 10, .inl rf))] s.heap.size = A at hD ⊢
  have hA : ∀ q : Nat, s.heap.size ≤ q → A q := fun q h => by rw [← hAe]; exact Or.inr h
  have hS : va_S A s.heap s.heap [] := va_S.rf
  have hD : va_D A [(a0, .inr (5, [.ref ag, .ref am, .ref ad, .ref b0, .int (nI tn), .int v1, .int v2, .int v3, .int v4])), (am, .inl (cI, 3, .inl nf)), (ad, .inl (cI, 3, .inl td)), (b0, .inr (4, [.int len, .int att, .int en, .int (nI n), .ref bk, .ref bp, .ref bl, .ref br])), (bk, .inl (cI, 10, .inl kf)), (bp, .inl (cI, 10, .inl pf)), (bl, .inl (cI, 10, .inl lf)), (br, .inl (cI, 10, .inl rf))] := hD
  have hP : va_P D vwCl [(a0, .inr (5, [.ref ag, .ref am, .ref ad, .ref b0, .int (nI tn), .int v1, .int v2, .int v3, .int v4])), (am, .inl (cI, 3, .inl nf)), (ad, .inl (cI, 3, .inl td)), (b0, .inr (4, [.int len, .int att, .int en, .int (nI n), .ref bk, .ref bp, .ref bl, .ref br])), (bk, .inl (cI, 10, .inl kf)), (bp, .inl (cI, 10, .inl pf)), (bl, .inl (cI, 10, .inl lf)), (br, .inl (cI, 10, .inl rf))] s.heap := hP
  have hl := lv_entry ([.ref a0, .int (nI j)]) (n := 4) (Nat.le_of_ble_eq_true rfl)
  rw [lg_entry_eq]
  generalize (lg_sl ([.ref a0, .int (nI j)]) ++ List.replicate (4 - (lg_sl ([.ref a0, .int (nI j)])).length) Slot.unset).toArray = ls at hl ⊢
  have hl : lv_has ls 4 [(0, .ref a0), (1, .int (nI j))] := hl
  have hn := hLR.2.2.2.2.1
  have hm3 := hLR.2.2.2.1
  have hcn : (mm 3).toNatClampNeg = n := ftLR_n hLR
  refine lv_aload_n hx hb dX5_build_0 rfl (lv_at hl 0 rfl) ?_
  refine va_get (D := D) (ci := 5) (v := .ref am) (C := RX5) (T := TX5) (N := 9) hx hb hts (by decide +kernel) hown hK hP 0 rfl rfl 1 (by decide) (hts (.fieldLink RX5 15 "FiberTrace$LinkText" "numbers" "[I") (by decide +kernel)) (fun _ h9 => h9) rfl dX5_build_1 ?_
  refine lv_iconst (v := 0) hx hb dX5_build_4 (by decide) ?_
  refine ft_csi (r := ftAt 3 nf 0) (va_runSN (As := [.ref am, .int 0]) (rest := []) ⟨hx, hb, hml, hown, hts⟩ (c_X10_at l D cI cS am 3 nf 0 (by first | assumption | omega)) ⟨va_cnB 2 hts gX5_build_X10_at_n93 rfl rfl rfl (hKK.2 _ (List.mem_of_getElem? (i := 8) rfl)) (hts (.initialized RX10) (by decide +kernel)) (by decide +kernel) ⟨Nat.le_of_ble_eq_true rfl, Nat.le_of_ble_eq_true rfl⟩, hts (.static yX10_at) (by decide +kernel), trivial⟩ (ft_preRO hP hKK [1] rfl) rfl rfl hl.1 rfl (lv_room (Nat.le_of_ble_eq_true rfl)) dX5_build_5 ⟨Nat.le_of_ble_eq_true rfl, Nat.le_of_ble_eq_true rfl⟩) ?_
  refine ft_top (y := nf 0) (ftAt_N (k := 0) (by omega) (by omega)) ?_
  refine lv_istore_n (lv' := [(2, .int (nf 0)), (0, .ref a0), (1, .int (nI j))]) hx hb dX5_build_8 rfl hl (by decide) rfl (fun ls hl => ?_)
  refine lv_aload_n hx hb dX5_build_9 rfl (lv_at hl 1 rfl) ?_
  refine va_get (D := D) (ci := 5) (v := .ref ad) (C := RX5) (T := TX5) (N := 9) hx hb hts (by decide +kernel) hown hK hP 0 rfl rfl 2 (by decide) (hts (.fieldLink RX5 18 "FiberTrace$LinkText" "told" "[I") (by decide +kernel)) (fun _ h9 => h9) rfl dX5_build_10 ?_
  refine lv_iload_n hx hb dX5_build_13 rfl (lv_at hl 2 rfl) ?_
  refine lv_iconst (v := 1) hx hb dX5_build_14 (by decide) ?_
  refine ft_cv (wc := [(ad, .inl (cI, 3, .inl td))]) (wr := [(a0, .inr (5, [.ref ag, .ref am, .ref ad, .ref b0, .int (nI tn), .int v1, .int v2, .int v3, .int v4])), (am, .inl (cI, 3, .inl nf)), (b0, .inr (4, [.int len, .int att, .int en, .int (nI n), .ref bk, .ref bp, .ref bl, .ref br])), (bk, .inl (cI, 10, .inl kf)), (bp, .inl (cI, 10, .inl pf)), (bl, .inl (cI, 10, .inl lf)), (br, .inl (cI, 10, .inl rf))]) (w1 := [(ad, .inl (cI, 3, .inl (ftPut 3 td (nI j) 1)))]) (ws1 := [(a0, .inr (5, [.ref ag, .ref am, .ref ad, .ref b0, .int (nI tn), .int v1, .int v2, .int v3, .int v4])), (am, .inl (cI, 3, .inl nf)), (ad, .inl (cI, 3, .inl (ftPut 3 td (nI j) 1))), (b0, .inr (4, [.int len, .int att, .int en, .int (nI n), .ref bk, .ref bp, .ref bl, .ref br])), (bk, .inl (cI, 10, .inl kf)), (bp, .inl (cI, 10, .inl pf)), (bl, .inl (cI, 10, .inl lf)), (br, .inl (cI, 10, .inl rf))]) (va_runSN (As := [.ref ad, .int (nI j), .int 1]) (rest := []) ⟨hx, hb, hml, hown, hts⟩ (c_X10_put l D cI cS s.heap.size ad 3 td (nI j) 1 (by omega)) ⟨va_cnB 3 hts gX5_build_X10_put_n32 rfl rfl rfl (hKK.2 _ (List.mem_of_getElem? (i := 7) rfl)) (hts (.initialized RX10) (by decide +kernel)) (by decide +kernel) ⟨Nat.le_of_ble_eq_true rfl, Nat.le_of_ble_eq_true rfl⟩, hts (.static yX10_put) (by decide +kernel), trivial⟩ (ft_preRW hP hD hKK [2] rfl rfl rfl) rfl rfl hl.1 rfl (lv_room (Nat.le_of_ble_eq_true rfl)) dX5_build_15 ⟨Nat.le_of_ble_eq_true rfl, Nat.le_of_ble_eq_true rfl⟩) hP hD hS hA [2] [0, 1, 3, 4, 5, 6, 7] [0, 1, 7, 2, 3, 4, 5, 6] rfl rfl (by decide) (by decide) (by decide) rfl rfl (fun H locs hP hD hS => ?_)
  have hP : va_P D vwCl [(a0, .inr (5, [.ref ag, .ref am, .ref ad, .ref b0, .int (nI tn), .int v1, .int v2, .int v3, .int v4])), (am, .inl (cI, 3, .inl nf)), (ad, .inl (cI, 3, .inl (ftPut 3 td (nI j) 1))), (b0, .inr (4, [.int len, .int att, .int en, .int (nI n), .ref bk, .ref bp, .ref bl, .ref br])), (bk, .inl (cI, 10, .inl kf)), (bp, .inl (cI, 10, .inl pf)), (bl, .inl (cI, 10, .inl lf)), (br, .inl (cI, 10, .inl rf))] H := hP
  have hD : va_D A [(a0, .inr (5, [.ref ag, .ref am, .ref ad, .ref b0, .int (nI tn), .int v1, .int v2, .int v3, .int v4])), (am, .inl (cI, 3, .inl nf)), (ad, .inl (cI, 3, .inl (ftPut 3 td (nI j) 1))), (b0, .inr (4, [.int len, .int att, .int en, .int (nI n), .ref bk, .ref bp, .ref bl, .ref br])), (bk, .inl (cI, 10, .inl kf)), (bp, .inl (cI, 10, .inl pf)), (bl, .inl (cI, 10, .inl lf)), (br, .inl (cI, 10, .inl rf))] := hD
  have htd9 : ftTd (ftPut 3 td (nI j) 1) (h ||| 2 ^ j) := ftTd_put hj hh hTd
  refine lv_iload_n hx hb dX5_build_18 rfl (lv_at hl 2 rfl) ?_
  by_cases c19_0 : (nI j) = 0
  · refine lv_tableIn (off := 25) (tgt := 44) hx hb dX5_build_19 (by rw [c19_0]; decide) (by rw [c19_0]; decide) (by rw [c19_0]; decide) (by decide) ?_
    have hj9 : j = 0 := ft_eqN (by omega) (by omega) c19_0
    have hBL : (if nI j < 3 then upd mm j (nf 0) else ftAdd mm n (nI j - 3) (nf 0) (nf 1) (if nI j = 4 then nf 2 else 0)) = upd mm 0 (nf 0) := by rw [hj9]; exact if_pos (by decide)
    have hfin : ftLR (upd mm 0 (nf 0)) (nf 0) att en n kf pf lf rf := ⟨rfl, hLR.2.1, hLR.2.2.1, hm3, hn, fun k hk => by rw [ftUpd_ne (by omega), ftUpd_ne (by omega), ftUpd_ne (by omega), ftUpd_ne (by omega)]; exact hLR.2.2.2.2.2 k hk⟩
    refine lv_aload_n hx hb dX5_build_44 rfl (lv_at hl 1 rfl) ?_
    refine va_get (D := D) (ci := 5) (v := .ref b0) (C := RX5) (T := TX5) (N := 9) hx hb hts (by decide +kernel) hown hK hP 0 rfl rfl 3 (by decide) (hts (.fieldLink RX5 24 "FiberTrace$LinkText" "link" "LFiberTrace$Link;") (by decide +kernel)) (fun _ h9 => h9) rfl dX5_build_45 ?_
    refine lv_iload_n hx hb dX5_build_48 rfl (lv_at hl 0 rfl) ?_
    refine va_put (D := D) (ci := 4) (v := .int (nf 0)) (ty := .int) (C := RX4) (T := TX4) (N := 8) hx hb hts (by decide +kernel) tyX4 tyX4_ok nmX4 hown hK hP hD hS 3 rfl rfl 0 (by decide) (hts (.fieldLink RX5 143 "FiberTrace$Link" "length" "I") (by decide +kernel)) (fun _ h9 => h9) rfl (by decide +kernel) rfl rfl (Nat.le_of_ble_eq_true rfl) dX5_build_49 (fun H locs hP hD hS => ?_)
    have hP : va_P D vwCl [(a0, .inr (5, [.ref ag, .ref am, .ref ad, .ref b0, .int (nI tn), .int v1, .int v2, .int v3, .int v4])), (am, .inl (cI, 3, .inl nf)), (ad, .inl (cI, 3, .inl (ftPut 3 td (nI j) 1))), (b0, .inr (4, [.int (nf 0), .int att, .int en, .int (nI n), .ref bk, .ref bp, .ref bl, .ref br])), (bk, .inl (cI, 10, .inl kf)), (bp, .inl (cI, 10, .inl pf)), (bl, .inl (cI, 10, .inl lf)), (br, .inl (cI, 10, .inl rf))] H := hP
    have hD : va_D A [(a0, .inr (5, [.ref ag, .ref am, .ref ad, .ref b0, .int (nI tn), .int v1, .int v2, .int v3, .int v4])), (am, .inl (cI, 3, .inl nf)), (ad, .inl (cI, 3, .inl (ftPut 3 td (nI j) 1))), (b0, .inr (4, [.int (nf 0), .int att, .int en, .int (nI n), .ref bk, .ref bp, .ref bl, .ref br])), (bk, .inl (cI, 10, .inl kf)), (bp, .inl (cI, 10, .inl pf)), (bl, .inl (cI, 10, .inl lf)), (br, .inl (cI, 10, .inl rf))] := hD
    refine lv_goto (tgt := 116) hx hb dX5_build_52 (by decide) ?_
    obtain ⟨u9, hu9⟩ : ∃ u9 : Nat × (Nat → Int32) × (Nat → Nat → Int32), u9 = (n, (fun k => match k with | 0 => (nf 0) | 1 => att | _ => en), (fun k => match k with | 0 => (ftPut 3 td (nI j) 1) | 1 => kf | 2 => pf | 3 => lf | _ => rf)) := ⟨_, rfl⟩
    have hw9 : ([(a0, .inr (5, [.ref ag, .ref am, .ref ad, .ref b0, .int (nI tn), .int v1, .int v2, .int v3, .int v4])), (am, .inl (cI, 3, .inl nf)), (ad, .inl (cI, 3, .inl (ftPut 3 td (nI j) 1))), (b0, .inr (4, [.int (nf 0), .int att, .int en, .int (nI n), .ref bk, .ref bp, .ref bl, .ref br])), (bk, .inl (cI, 10, .inl kf)), (bp, .inl (cI, 10, .inl pf)), (bl, .inl (cI, 10, .inl lf)), (br, .inl (cI, 10, .inl rf))] : va_W) = [(a0, .inr (5, [.ref ag, .ref am, .ref ad, .ref b0, .int (nI tn), .int v1, .int v2, .int v3, .int v4])), (am, .inl (cI, 3, .inl nf)), (ad, .inl (cI, 3, .inl (u9.2.2 0))), (b0, .inr (4, [.int (u9.2.1 0), .int (u9.2.1 1), .int (u9.2.1 2), .int (nI u9.1), .ref bk, .ref bp, .ref bl, .ref br])), (bk, .inl (cI, 10, .inl (u9.2.2 1))), (bp, .inl (cI, 10, .inl (u9.2.2 2))), (bl, .inl (cI, 10, .inl (u9.2.2 3))), (br, .inl (cI, 10, .inl (u9.2.2 4)))] := by subst hu9; rfl
    rw [hw9] at hP hD
    have hf9_0 : ftLR (if nI j < 3 then upd mm j (nf 0) else ftAdd mm n (nI j - 3) (nf 0) (nf 1) (if nI j = 4 then nf 2 else 0)) (u9.2.1 0) (u9.2.1 1) (u9.2.1 2) u9.1 (u9.2.2 1) (u9.2.2 2) (u9.2.2 3) (u9.2.2 4) := by rw [hu9, hBL]; exact hfin
    have hf9_1 : ftTd (u9.2.2 0) (h ||| 2 ^ j) := by rw [hu9]; exact htd9
    exact W.vret hx hb hr (fun t ht hW => ⟨⟨u9, rfl, ⟨hf9_0, hf9_1⟩, by rw [ht]; exact hP, by rw [hAe]; exact hD⟩, by rw [hAe]; exact hS.F ht⟩) hS.2.2 dX5_build_116
  by_cases c19_1 : (nI j) = 1
  · refine lv_tableIn (off := 36) (tgt := 55) hx hb dX5_build_19 (by rw [c19_1]; decide) (by rw [c19_1]; decide) (by rw [c19_1]; decide) (by decide) ?_
    have hj9 : j = 1 := ft_eqN (by omega) (by omega) c19_1
    have hBL : (if nI j < 3 then upd mm j (nf 0) else ftAdd mm n (nI j - 3) (nf 0) (nf 1) (if nI j = 4 then nf 2 else 0)) = upd mm 1 (nf 0) := by rw [hj9]; exact if_pos (by decide)
    have hfin : ftLR (upd mm 1 (nf 0)) len (nf 0) en n kf pf lf rf := ⟨hLR.1, rfl, hLR.2.2.1, hm3, hn, fun k hk => by rw [ftUpd_ne (by omega), ftUpd_ne (by omega), ftUpd_ne (by omega), ftUpd_ne (by omega)]; exact hLR.2.2.2.2.2 k hk⟩
    refine lv_aload_n hx hb dX5_build_55 rfl (lv_at hl 1 rfl) ?_
    refine va_get (D := D) (ci := 5) (v := .ref b0) (C := RX5) (T := TX5) (N := 9) hx hb hts (by decide +kernel) hown hK hP 0 rfl rfl 3 (by decide) (hts (.fieldLink RX5 24 "FiberTrace$LinkText" "link" "LFiberTrace$Link;") (by decide +kernel)) (fun _ h9 => h9) rfl dX5_build_56 ?_
    refine lv_iload_n hx hb dX5_build_59 rfl (lv_at hl 0 rfl) ?_
    refine va_put (D := D) (ci := 4) (v := .int (nf 0)) (ty := .int) (C := RX4) (T := TX4) (N := 8) hx hb hts (by decide +kernel) tyX4 tyX4_ok nmX4 hown hK hP hD hS 3 rfl rfl 1 (by decide) (hts (.fieldLink RX5 145 "FiberTrace$Link" "attenuation" "I") (by decide +kernel)) (fun _ h9 => h9) rfl (by decide +kernel) rfl rfl (Nat.le_of_ble_eq_true rfl) dX5_build_60 (fun H locs hP hD hS => ?_)
    have hP : va_P D vwCl [(a0, .inr (5, [.ref ag, .ref am, .ref ad, .ref b0, .int (nI tn), .int v1, .int v2, .int v3, .int v4])), (am, .inl (cI, 3, .inl nf)), (ad, .inl (cI, 3, .inl (ftPut 3 td (nI j) 1))), (b0, .inr (4, [.int len, .int (nf 0), .int en, .int (nI n), .ref bk, .ref bp, .ref bl, .ref br])), (bk, .inl (cI, 10, .inl kf)), (bp, .inl (cI, 10, .inl pf)), (bl, .inl (cI, 10, .inl lf)), (br, .inl (cI, 10, .inl rf))] H := hP
    have hD : va_D A [(a0, .inr (5, [.ref ag, .ref am, .ref ad, .ref b0, .int (nI tn), .int v1, .int v2, .int v3, .int v4])), (am, .inl (cI, 3, .inl nf)), (ad, .inl (cI, 3, .inl (ftPut 3 td (nI j) 1))), (b0, .inr (4, [.int len, .int (nf 0), .int en, .int (nI n), .ref bk, .ref bp, .ref bl, .ref br])), (bk, .inl (cI, 10, .inl kf)), (bp, .inl (cI, 10, .inl pf)), (bl, .inl (cI, 10, .inl lf)), (br, .inl (cI, 10, .inl rf))] := hD
    refine lv_goto (tgt := 116) hx hb dX5_build_63 (by decide) ?_
    obtain ⟨u9, hu9⟩ : ∃ u9 : Nat × (Nat → Int32) × (Nat → Nat → Int32), u9 = (n, (fun k => match k with | 0 => len | 1 => (nf 0) | _ => en), (fun k => match k with | 0 => (ftPut 3 td (nI j) 1) | 1 => kf | 2 => pf | 3 => lf | _ => rf)) := ⟨_, rfl⟩
    have hw9 : ([(a0, .inr (5, [.ref ag, .ref am, .ref ad, .ref b0, .int (nI tn), .int v1, .int v2, .int v3, .int v4])), (am, .inl (cI, 3, .inl nf)), (ad, .inl (cI, 3, .inl (ftPut 3 td (nI j) 1))), (b0, .inr (4, [.int len, .int (nf 0), .int en, .int (nI n), .ref bk, .ref bp, .ref bl, .ref br])), (bk, .inl (cI, 10, .inl kf)), (bp, .inl (cI, 10, .inl pf)), (bl, .inl (cI, 10, .inl lf)), (br, .inl (cI, 10, .inl rf))] : va_W) = [(a0, .inr (5, [.ref ag, .ref am, .ref ad, .ref b0, .int (nI tn), .int v1, .int v2, .int v3, .int v4])), (am, .inl (cI, 3, .inl nf)), (ad, .inl (cI, 3, .inl (u9.2.2 0))), (b0, .inr (4, [.int (u9.2.1 0), .int (u9.2.1 1), .int (u9.2.1 2), .int (nI u9.1), .ref bk, .ref bp, .ref bl, .ref br])), (bk, .inl (cI, 10, .inl (u9.2.2 1))), (bp, .inl (cI, 10, .inl (u9.2.2 2))), (bl, .inl (cI, 10, .inl (u9.2.2 3))), (br, .inl (cI, 10, .inl (u9.2.2 4)))] := by subst hu9; rfl
    rw [hw9] at hP hD
    have hf9_0 : ftLR (if nI j < 3 then upd mm j (nf 0) else ftAdd mm n (nI j - 3) (nf 0) (nf 1) (if nI j = 4 then nf 2 else 0)) (u9.2.1 0) (u9.2.1 1) (u9.2.1 2) u9.1 (u9.2.2 1) (u9.2.2 2) (u9.2.2 3) (u9.2.2 4) := by rw [hu9, hBL]; exact hfin
    have hf9_1 : ftTd (u9.2.2 0) (h ||| 2 ^ j) := by rw [hu9]; exact htd9
    exact W.vret hx hb hr (fun t ht hW => ⟨⟨u9, rfl, ⟨hf9_0, hf9_1⟩, by rw [ht]; exact hP, by rw [hAe]; exact hD⟩, by rw [hAe]; exact hS.F ht⟩) hS.2.2 dX5_build_116
  by_cases c19_2 : (nI j) = 2
  · refine lv_tableIn (off := 47) (tgt := 66) hx hb dX5_build_19 (by rw [c19_2]; decide) (by rw [c19_2]; decide) (by rw [c19_2]; decide) (by decide) ?_
    have hj9 : j = 2 := ft_eqN (by omega) (by omega) c19_2
    have hBL : (if nI j < 3 then upd mm j (nf 0) else ftAdd mm n (nI j - 3) (nf 0) (nf 1) (if nI j = 4 then nf 2 else 0)) = upd mm 2 (nf 0) := by rw [hj9]; exact if_pos (by decide)
    have hfin : ftLR (upd mm 2 (nf 0)) len att (nf 0) n kf pf lf rf := ⟨hLR.1, hLR.2.1, rfl, hm3, hn, fun k hk => by rw [ftUpd_ne (by omega), ftUpd_ne (by omega), ftUpd_ne (by omega), ftUpd_ne (by omega)]; exact hLR.2.2.2.2.2 k hk⟩
    refine lv_aload_n hx hb dX5_build_66 rfl (lv_at hl 1 rfl) ?_
    refine va_get (D := D) (ci := 5) (v := .ref b0) (C := RX5) (T := TX5) (N := 9) hx hb hts (by decide +kernel) hown hK hP 0 rfl rfl 3 (by decide) (hts (.fieldLink RX5 24 "FiberTrace$LinkText" "link" "LFiberTrace$Link;") (by decide +kernel)) (fun _ h9 => h9) rfl dX5_build_67 ?_
    refine lv_iload_n hx hb dX5_build_70 rfl (lv_at hl 0 rfl) ?_
    refine va_put (D := D) (ci := 4) (v := .int (nf 0)) (ty := .int) (C := RX4) (T := TX4) (N := 8) hx hb hts (by decide +kernel) tyX4 tyX4_ok nmX4 hown hK hP hD hS 3 rfl rfl 2 (by decide) (hts (.fieldLink RX5 147 "FiberTrace$Link" "end" "I") (by decide +kernel)) (fun _ h9 => h9) rfl (by decide +kernel) rfl rfl (Nat.le_of_ble_eq_true rfl) dX5_build_71 (fun H locs hP hD hS => ?_)
    have hP : va_P D vwCl [(a0, .inr (5, [.ref ag, .ref am, .ref ad, .ref b0, .int (nI tn), .int v1, .int v2, .int v3, .int v4])), (am, .inl (cI, 3, .inl nf)), (ad, .inl (cI, 3, .inl (ftPut 3 td (nI j) 1))), (b0, .inr (4, [.int len, .int att, .int (nf 0), .int (nI n), .ref bk, .ref bp, .ref bl, .ref br])), (bk, .inl (cI, 10, .inl kf)), (bp, .inl (cI, 10, .inl pf)), (bl, .inl (cI, 10, .inl lf)), (br, .inl (cI, 10, .inl rf))] H := hP
    have hD : va_D A [(a0, .inr (5, [.ref ag, .ref am, .ref ad, .ref b0, .int (nI tn), .int v1, .int v2, .int v3, .int v4])), (am, .inl (cI, 3, .inl nf)), (ad, .inl (cI, 3, .inl (ftPut 3 td (nI j) 1))), (b0, .inr (4, [.int len, .int att, .int (nf 0), .int (nI n), .ref bk, .ref bp, .ref bl, .ref br])), (bk, .inl (cI, 10, .inl kf)), (bp, .inl (cI, 10, .inl pf)), (bl, .inl (cI, 10, .inl lf)), (br, .inl (cI, 10, .inl rf))] := hD
    refine lv_goto (tgt := 116) hx hb dX5_build_74 (by decide) ?_
    obtain ⟨u9, hu9⟩ : ∃ u9 : Nat × (Nat → Int32) × (Nat → Nat → Int32), u9 = (n, (fun k => match k with | 0 => len | 1 => att | _ => (nf 0)), (fun k => match k with | 0 => (ftPut 3 td (nI j) 1) | 1 => kf | 2 => pf | 3 => lf | _ => rf)) := ⟨_, rfl⟩
    have hw9 : ([(a0, .inr (5, [.ref ag, .ref am, .ref ad, .ref b0, .int (nI tn), .int v1, .int v2, .int v3, .int v4])), (am, .inl (cI, 3, .inl nf)), (ad, .inl (cI, 3, .inl (ftPut 3 td (nI j) 1))), (b0, .inr (4, [.int len, .int att, .int (nf 0), .int (nI n), .ref bk, .ref bp, .ref bl, .ref br])), (bk, .inl (cI, 10, .inl kf)), (bp, .inl (cI, 10, .inl pf)), (bl, .inl (cI, 10, .inl lf)), (br, .inl (cI, 10, .inl rf))] : va_W) = [(a0, .inr (5, [.ref ag, .ref am, .ref ad, .ref b0, .int (nI tn), .int v1, .int v2, .int v3, .int v4])), (am, .inl (cI, 3, .inl nf)), (ad, .inl (cI, 3, .inl (u9.2.2 0))), (b0, .inr (4, [.int (u9.2.1 0), .int (u9.2.1 1), .int (u9.2.1 2), .int (nI u9.1), .ref bk, .ref bp, .ref bl, .ref br])), (bk, .inl (cI, 10, .inl (u9.2.2 1))), (bp, .inl (cI, 10, .inl (u9.2.2 2))), (bl, .inl (cI, 10, .inl (u9.2.2 3))), (br, .inl (cI, 10, .inl (u9.2.2 4)))] := by subst hu9; rfl
    rw [hw9] at hP hD
    have hf9_0 : ftLR (if nI j < 3 then upd mm j (nf 0) else ftAdd mm n (nI j - 3) (nf 0) (nf 1) (if nI j = 4 then nf 2 else 0)) (u9.2.1 0) (u9.2.1 1) (u9.2.1 2) u9.1 (u9.2.2 1) (u9.2.2 2) (u9.2.2 3) (u9.2.2 4) := by rw [hu9, hBL]; exact hfin
    have hf9_1 : ftTd (u9.2.2 0) (h ||| 2 ^ j) := by rw [hu9]; exact htd9
    exact W.vret hx hb hr (fun t ht hW => ⟨⟨u9, rfl, ⟨hf9_0, hf9_1⟩, by rw [ht]; exact hP, by rw [hAe]; exact hD⟩, by rw [hAe]; exact hS.F ht⟩) hS.2.2 dX5_build_116
  have c19_0i := lv_neT (a := 0) c19_0 (by decide)
  have c19_1i := lv_neT (a := 1) c19_1 (by decide)
  have c19_2i := lv_neT (a := 2) c19_2 (by decide)
  refine lv_tableOut (tgt := 77) hx hb dX5_build_19 (by omega) (by decide) ?_
  have hj3 : 3 ≤ j := by
    have q0 : j ≠ 0 := fun q => c19_0 (by rw [q]; rfl)
    have q1 : j ≠ 1 := fun q => c19_1 (by rw [q]; rfl)
    have q2 : j ≠ 2 := fun q => c19_2 (by rw [q]; rfl)
    omega
  have hnl : ¬ nI j < 3 := fun q => absurd ((ft_lt3 hj).mp q) (by omega)
  obtain ⟨hd1, hd2⟩ := hAl.2 hnl
  rw [hcn] at hd1
  have hn10 : n ≠ 10 := fun q => hd2 (by rw [hm3, q]; rfl)
  have hasc : ∀ a b, a < b → b < n → mm (4 + 4 * a + 1) < mm (4 + 4 * b + 1) := by
    have q := hLf.2.2.2.2.2
    rw [show ftCN mm = n from hcn] at q
    exact q
  refine lv_iload_n hx hb dX5_build_77 rfl (lv_at hl 2 rfl) ?_
  refine lv_iconst (v := 3) hx hb dX5_build_78 (by decide) ?_
  refine lv_isub hx hb dX5_build_79 ?_
  refine lv_istore_n (lv' := [(3, .int ((nI j) - 3)), (2, .int (nf 0)), (0, .ref a0), (1, .int (nI j))]) hx hb dX5_build_80 rfl hl (by decide) rfl (fun ls hl => ?_)
  refine lv_aload_n hx hb dX5_build_81 rfl (lv_at hl 2 rfl) ?_
  refine va_get (D := D) (ci := 5) (v := .ref b0) (C := RX5) (T := TX5) (N := 9) hx hb hts (by decide +kernel) hown hK hP 0 rfl rfl 3 (by decide) (hts (.fieldLink RX5 24 "FiberTrace$LinkText" "link" "LFiberTrace$Link;") (by decide +kernel)) (fun _ h9 => h9) rfl dX5_build_82 ?_
  refine lv_iload_n hx hb dX5_build_85 rfl (lv_at hl 0 rfl) ?_
  refine lv_iload_n hx hb dX5_build_86 rfl (lv_at hl 1 rfl) ?_
  refine lv_aload_n hx hb dX5_build_87 rfl (lv_at hl 2 rfl) ?_
  refine va_get (D := D) (ci := 5) (v := .ref am) (C := RX5) (T := TX5) (N := 9) hx hb hts (by decide +kernel) hown hK hP 0 rfl rfl 1 (by decide) (hts (.fieldLink RX5 15 "FiberTrace$LinkText" "numbers" "[I") (by decide +kernel)) (fun _ h9 => h9) rfl dX5_build_88 ?_
  refine lv_iconst (v := 1) hx hb dX5_build_91 (by decide) ?_
  refine ft_csi (r := ftAt 3 nf 1) (va_runSN (As := [.ref am, .int 1]) (rest := [.int (nf 0), .int ((nI j) - 3), .ref b0]) ⟨hx, hb, hml, hown, hts⟩ (c_X10_at l D cI cS am 3 nf 1 (by first | assumption | omega)) ⟨va_cnB 2 hts gX5_build_X10_at_n93 rfl rfl rfl (hKK.2 _ (List.mem_of_getElem? (i := 8) rfl)) (hts (.initialized RX10) (by decide +kernel)) (by decide +kernel) ⟨Nat.le_of_ble_eq_true rfl, Nat.le_of_ble_eq_true rfl⟩, hts (.static yX10_at) (by decide +kernel), trivial⟩ (ft_preRO hP hKK [1] rfl) rfl rfl hl.1 rfl (lv_room (Nat.le_of_ble_eq_true rfl)) dX5_build_92 ⟨Nat.le_of_ble_eq_true rfl, Nat.le_of_ble_eq_true rfl⟩) ?_
  refine ft_top (y := nf 1) (ftAt_N (k := 1) (by omega) (by omega)) ?_
  refine lv_iload_n hx hb dX5_build_95 rfl (lv_at hl 0 rfl) ?_
  refine lv_iconst (v := 1) hx hb dX5_build_96 (by decide) ?_
  refine lv_icmp_ne (tgt := 111) hx hb dX5_build_97 (by decide) (fun c97 => ?_) (fun c97 => ?_)
  · have h4 : ¬ nI j = 4 := fun q => c97 (by rw [q]; decide)
    have hBL : (if nI j < 3 then upd mm j (nf 0) else ftAdd mm n (nI j - 3) (nf 0) (nf 1) (if nI j = 4 then nf 2 else 0)) = ftAdd mm n (nI j - 3) (nf 0) (nf 1) 0 := by rw [if_neg hnl, if_neg h4]
    have hfin := ftLR_add (kd := nI j - 3) (x := nf 0) (lo := nf 1) (re := 0) hLR (by omega) hasc (fun t ht q => hd1 ⟨t, ht, q⟩)
    refine lv_iconst (v := 0) hx hb dX5_build_111 (by decide) ?_
    refine ft_ci (r := nI (ftIdx pf (nf 0) n)) (wc := [(b0, .inr (4, [.int len, .int att, .int en, .int (nI n), .ref bk, .ref bp, .ref bl, .ref br])), (bk, .inl (cI, 10, .inl kf)), (bp, .inl (cI, 10, .inl pf)), (bl, .inl (cI, 10, .inl lf)), (br, .inl (cI, 10, .inl rf))]) (wr := [(a0, .inr (5, [.ref ag, .ref am, .ref ad, .ref b0, .int (nI tn), .int v1, .int v2, .int v3, .int v4])), (am, .inl (cI, 3, .inl nf)), (ad, .inl (cI, 3, .inl (ftPut 3 td (nI j) 1)))]) (w1 := [(b0, .inr (4, [.int len, .int att, .int en, .int (nI (n + 1)), .ref bk, .ref bp, .ref bl, .ref br])), (bk, .inl (cI, 10, .inl (ftIns kf n (ftIdx pf (nf 0) n) ((nI j) - 3)))), (bp, .inl (cI, 10, .inl (ftIns pf n (ftIdx pf (nf 0) n) (nf 0)))), (bl, .inl (cI, 10, .inl (ftIns lf n (ftIdx pf (nf 0) n) (nf 1)))), (br, .inl (cI, 10, .inl (ftIns rf n (ftIdx pf (nf 0) n) 0)))]) (ws1 := [(a0, .inr (5, [.ref ag, .ref am, .ref ad, .ref b0, .int (nI tn), .int v1, .int v2, .int v3, .int v4])), (am, .inl (cI, 3, .inl nf)), (ad, .inl (cI, 3, .inl (ftPut 3 td (nI j) 1))), (b0, .inr (4, [.int len, .int att, .int en, .int (nI (n + 1)), .ref bk, .ref bp, .ref bl, .ref br])), (bk, .inl (cI, 10, .inl (ftIns kf n (ftIdx pf (nf 0) n) ((nI j) - 3)))), (bp, .inl (cI, 10, .inl (ftIns pf n (ftIdx pf (nf 0) n) (nf 0)))), (bl, .inl (cI, 10, .inl (ftIns lf n (ftIdx pf (nf 0) n) (nf 1)))), (br, .inl (cI, 10, .inl (ftIns rf n (ftIdx pf (nf 0) n) 0)))]) (va_runV (C := RX4) (As := [.int ((nI j) - 3), .int (nf 0), .int (nf 1), .int 0]) (rest := []) ⟨hx, hb, hml, hown, hts⟩ (c_X4_insert l D cI cS H.size b0 len att en n bk bp bl br kf pf lf rf ((nI j) - 3) (nf 0) (nf 1) 0 (by omega)) (cwV 4 hts gX5_build_X4_insert rfl rfl rfl (by decide +kernel) ⟨Nat.le_of_ble_eq_true rfl, Nat.le_of_ble_eq_true rfl⟩) (ft_preRWV (ci := 4) (q0 := 3) hP hD hKK [3, 4, 5, 6, 7] rfl rfl rfl rfl rfl) rfl rfl hl.1 rfl (lv_room (Nat.le_of_ble_eq_true rfl)) dX5_build_112 ⟨Nat.le_of_ble_eq_true rfl, Nat.le_of_ble_eq_true rfl⟩) hP hD hS hA [3, 4, 5, 6, 7] [0, 1, 2] [0, 1, 2, 3, 4, 5, 6, 7] rfl rfl (by decide) (by decide) (by decide) rfl rfl (fun H locs hP hD hS => ?_)
    have hP : va_P D vwCl [(a0, .inr (5, [.ref ag, .ref am, .ref ad, .ref b0, .int (nI tn), .int v1, .int v2, .int v3, .int v4])), (am, .inl (cI, 3, .inl nf)), (ad, .inl (cI, 3, .inl (ftPut 3 td (nI j) 1))), (b0, .inr (4, [.int len, .int att, .int en, .int (nI (n + 1)), .ref bk, .ref bp, .ref bl, .ref br])), (bk, .inl (cI, 10, .inl (ftIns kf n (ftIdx pf (nf 0) n) ((nI j) - 3)))), (bp, .inl (cI, 10, .inl (ftIns pf n (ftIdx pf (nf 0) n) (nf 0)))), (bl, .inl (cI, 10, .inl (ftIns lf n (ftIdx pf (nf 0) n) (nf 1)))), (br, .inl (cI, 10, .inl (ftIns rf n (ftIdx pf (nf 0) n) 0)))] H := hP
    have hD : va_D A [(a0, .inr (5, [.ref ag, .ref am, .ref ad, .ref b0, .int (nI tn), .int v1, .int v2, .int v3, .int v4])), (am, .inl (cI, 3, .inl nf)), (ad, .inl (cI, 3, .inl (ftPut 3 td (nI j) 1))), (b0, .inr (4, [.int len, .int att, .int en, .int (nI (n + 1)), .ref bk, .ref bp, .ref bl, .ref br])), (bk, .inl (cI, 10, .inl (ftIns kf n (ftIdx pf (nf 0) n) ((nI j) - 3)))), (bp, .inl (cI, 10, .inl (ftIns pf n (ftIdx pf (nf 0) n) (nf 0)))), (bl, .inl (cI, 10, .inl (ftIns lf n (ftIdx pf (nf 0) n) (nf 1)))), (br, .inl (cI, 10, .inl (ftIns rf n (ftIdx pf (nf 0) n) 0)))] := hD
    refine lv_pop hx hb dX5_build_115 rfl ?_
    obtain ⟨u9, hu9⟩ : ∃ u9 : Nat × (Nat → Int32) × (Nat → Nat → Int32), u9 = (n + 1, (fun k => match k with | 0 => len | 1 => att | _ => en), (fun k => match k with | 0 => (ftPut 3 td (nI j) 1) | 1 => (ftIns kf n (ftIdx pf (nf 0) n) ((nI j) - 3)) | 2 => (ftIns pf n (ftIdx pf (nf 0) n) (nf 0)) | 3 => (ftIns lf n (ftIdx pf (nf 0) n) (nf 1)) | _ => (ftIns rf n (ftIdx pf (nf 0) n) 0))) := ⟨_, rfl⟩
    have hw9 : ([(a0, .inr (5, [.ref ag, .ref am, .ref ad, .ref b0, .int (nI tn), .int v1, .int v2, .int v3, .int v4])), (am, .inl (cI, 3, .inl nf)), (ad, .inl (cI, 3, .inl (ftPut 3 td (nI j) 1))), (b0, .inr (4, [.int len, .int att, .int en, .int (nI (n + 1)), .ref bk, .ref bp, .ref bl, .ref br])), (bk, .inl (cI, 10, .inl (ftIns kf n (ftIdx pf (nf 0) n) ((nI j) - 3)))), (bp, .inl (cI, 10, .inl (ftIns pf n (ftIdx pf (nf 0) n) (nf 0)))), (bl, .inl (cI, 10, .inl (ftIns lf n (ftIdx pf (nf 0) n) (nf 1)))), (br, .inl (cI, 10, .inl (ftIns rf n (ftIdx pf (nf 0) n) 0)))] : va_W) = [(a0, .inr (5, [.ref ag, .ref am, .ref ad, .ref b0, .int (nI tn), .int v1, .int v2, .int v3, .int v4])), (am, .inl (cI, 3, .inl nf)), (ad, .inl (cI, 3, .inl (u9.2.2 0))), (b0, .inr (4, [.int (u9.2.1 0), .int (u9.2.1 1), .int (u9.2.1 2), .int (nI u9.1), .ref bk, .ref bp, .ref bl, .ref br])), (bk, .inl (cI, 10, .inl (u9.2.2 1))), (bp, .inl (cI, 10, .inl (u9.2.2 2))), (bl, .inl (cI, 10, .inl (u9.2.2 3))), (br, .inl (cI, 10, .inl (u9.2.2 4)))] := by subst hu9; rfl
    rw [hw9] at hP hD
    have hf9_0 : ftLR (if nI j < 3 then upd mm j (nf 0) else ftAdd mm n (nI j - 3) (nf 0) (nf 1) (if nI j = 4 then nf 2 else 0)) (u9.2.1 0) (u9.2.1 1) (u9.2.1 2) u9.1 (u9.2.2 1) (u9.2.2 2) (u9.2.2 3) (u9.2.2 4) := by rw [hu9, hBL]; exact hfin
    have hf9_1 : ftTd (u9.2.2 0) (h ||| 2 ^ j) := by rw [hu9]; exact htd9
    exact W.vret hx hb hr (fun t ht hW => ⟨⟨u9, rfl, ⟨hf9_0, hf9_1⟩, by rw [ht]; exact hP, by rw [hAe]; exact hD⟩, by rw [hAe]; exact hS.F ht⟩) hS.2.2 dX5_build_116
  · have h4 : nI j = 4 := by
      have q := ft_eqN (b := 4) (a := j) (by omega) (by omega)
      match j, hj3, hj with
      | 3, _, _ => exact absurd c97 (by decide)
      | 4, _, _ => rfl
      | 5, _, _ => exact absurd c97 (by decide)
    have hBL : (if nI j < 3 then upd mm j (nf 0) else ftAdd mm n (nI j - 3) (nf 0) (nf 1) (if nI j = 4 then nf 2 else 0)) = ftAdd mm n (nI j - 3) (nf 0) (nf 1) (nf 2) := by rw [if_neg hnl, if_pos h4]
    have hfin := ftLR_add (kd := nI j - 3) (x := nf 0) (lo := nf 1) (re := nf 2) hLR (by omega) hasc (fun t ht q => hd1 ⟨t, ht, q⟩)
    refine lv_aload_n hx hb dX5_build_100 rfl (lv_at hl 2 rfl) ?_
    refine va_get (D := D) (ci := 5) (v := .ref am) (C := RX5) (T := TX5) (N := 9) hx hb hts (by decide +kernel) hown hK hP 0 rfl rfl 1 (by decide) (hts (.fieldLink RX5 15 "FiberTrace$LinkText" "numbers" "[I") (by decide +kernel)) (fun _ h9 => h9) rfl dX5_build_101 ?_
    refine lv_iconst (v := 2) hx hb dX5_build_104 (by decide) ?_
    refine ft_csi (r := ftAt 3 nf 2) (va_runSN (As := [.ref am, .int 2]) (rest := [.int (nf 1), .int (nf 0), .int ((nI j) - 3), .ref b0]) ⟨hx, hb, hml, hown, hts⟩ (c_X10_at l D cI cS am 3 nf 2 (by first | assumption | omega)) ⟨va_cnB 2 hts gX5_build_X10_at_n93 rfl rfl rfl (hKK.2 _ (List.mem_of_getElem? (i := 8) rfl)) (hts (.initialized RX10) (by decide +kernel)) (by decide +kernel) ⟨Nat.le_of_ble_eq_true rfl, Nat.le_of_ble_eq_true rfl⟩, hts (.static yX10_at) (by decide +kernel), trivial⟩ (ft_preRO hP hKK [1] rfl) rfl rfl hl.1 rfl (lv_room (Nat.le_of_ble_eq_true rfl)) dX5_build_105 ⟨Nat.le_of_ble_eq_true rfl, Nat.le_of_ble_eq_true rfl⟩) ?_
    refine ft_top (y := nf 2) (ftAt_N (k := 2) (by omega) (by omega)) ?_
    refine lv_goto (tgt := 112) hx hb dX5_build_108 (by decide) ?_
    refine ft_ci (r := nI (ftIdx pf (nf 0) n)) (wc := [(b0, .inr (4, [.int len, .int att, .int en, .int (nI n), .ref bk, .ref bp, .ref bl, .ref br])), (bk, .inl (cI, 10, .inl kf)), (bp, .inl (cI, 10, .inl pf)), (bl, .inl (cI, 10, .inl lf)), (br, .inl (cI, 10, .inl rf))]) (wr := [(a0, .inr (5, [.ref ag, .ref am, .ref ad, .ref b0, .int (nI tn), .int v1, .int v2, .int v3, .int v4])), (am, .inl (cI, 3, .inl nf)), (ad, .inl (cI, 3, .inl (ftPut 3 td (nI j) 1)))]) (w1 := [(b0, .inr (4, [.int len, .int att, .int en, .int (nI (n + 1)), .ref bk, .ref bp, .ref bl, .ref br])), (bk, .inl (cI, 10, .inl (ftIns kf n (ftIdx pf (nf 0) n) ((nI j) - 3)))), (bp, .inl (cI, 10, .inl (ftIns pf n (ftIdx pf (nf 0) n) (nf 0)))), (bl, .inl (cI, 10, .inl (ftIns lf n (ftIdx pf (nf 0) n) (nf 1)))), (br, .inl (cI, 10, .inl (ftIns rf n (ftIdx pf (nf 0) n) (nf 2))))]) (ws1 := [(a0, .inr (5, [.ref ag, .ref am, .ref ad, .ref b0, .int (nI tn), .int v1, .int v2, .int v3, .int v4])), (am, .inl (cI, 3, .inl nf)), (ad, .inl (cI, 3, .inl (ftPut 3 td (nI j) 1))), (b0, .inr (4, [.int len, .int att, .int en, .int (nI (n + 1)), .ref bk, .ref bp, .ref bl, .ref br])), (bk, .inl (cI, 10, .inl (ftIns kf n (ftIdx pf (nf 0) n) ((nI j) - 3)))), (bp, .inl (cI, 10, .inl (ftIns pf n (ftIdx pf (nf 0) n) (nf 0)))), (bl, .inl (cI, 10, .inl (ftIns lf n (ftIdx pf (nf 0) n) (nf 1)))), (br, .inl (cI, 10, .inl (ftIns rf n (ftIdx pf (nf 0) n) (nf 2))))]) (va_runV (C := RX4) (As := [.int ((nI j) - 3), .int (nf 0), .int (nf 1), .int (nf 2)]) (rest := []) ⟨hx, hb, hml, hown, hts⟩ (c_X4_insert l D cI cS H.size b0 len att en n bk bp bl br kf pf lf rf ((nI j) - 3) (nf 0) (nf 1) (nf 2) (by omega)) (cwV 4 hts gX5_build_X4_insert rfl rfl rfl (by decide +kernel) ⟨Nat.le_of_ble_eq_true rfl, Nat.le_of_ble_eq_true rfl⟩) (ft_preRWV (ci := 4) (q0 := 3) hP hD hKK [3, 4, 5, 6, 7] rfl rfl rfl rfl rfl) rfl rfl hl.1 rfl (lv_room (Nat.le_of_ble_eq_true rfl)) dX5_build_112 ⟨Nat.le_of_ble_eq_true rfl, Nat.le_of_ble_eq_true rfl⟩) hP hD hS hA [3, 4, 5, 6, 7] [0, 1, 2] [0, 1, 2, 3, 4, 5, 6, 7] rfl rfl (by decide) (by decide) (by decide) rfl rfl (fun H locs hP hD hS => ?_)
    have hP : va_P D vwCl [(a0, .inr (5, [.ref ag, .ref am, .ref ad, .ref b0, .int (nI tn), .int v1, .int v2, .int v3, .int v4])), (am, .inl (cI, 3, .inl nf)), (ad, .inl (cI, 3, .inl (ftPut 3 td (nI j) 1))), (b0, .inr (4, [.int len, .int att, .int en, .int (nI (n + 1)), .ref bk, .ref bp, .ref bl, .ref br])), (bk, .inl (cI, 10, .inl (ftIns kf n (ftIdx pf (nf 0) n) ((nI j) - 3)))), (bp, .inl (cI, 10, .inl (ftIns pf n (ftIdx pf (nf 0) n) (nf 0)))), (bl, .inl (cI, 10, .inl (ftIns lf n (ftIdx pf (nf 0) n) (nf 1)))), (br, .inl (cI, 10, .inl (ftIns rf n (ftIdx pf (nf 0) n) (nf 2))))] H := hP
    have hD : va_D A [(a0, .inr (5, [.ref ag, .ref am, .ref ad, .ref b0, .int (nI tn), .int v1, .int v2, .int v3, .int v4])), (am, .inl (cI, 3, .inl nf)), (ad, .inl (cI, 3, .inl (ftPut 3 td (nI j) 1))), (b0, .inr (4, [.int len, .int att, .int en, .int (nI (n + 1)), .ref bk, .ref bp, .ref bl, .ref br])), (bk, .inl (cI, 10, .inl (ftIns kf n (ftIdx pf (nf 0) n) ((nI j) - 3)))), (bp, .inl (cI, 10, .inl (ftIns pf n (ftIdx pf (nf 0) n) (nf 0)))), (bl, .inl (cI, 10, .inl (ftIns lf n (ftIdx pf (nf 0) n) (nf 1)))), (br, .inl (cI, 10, .inl (ftIns rf n (ftIdx pf (nf 0) n) (nf 2))))] := hD
    refine lv_pop hx hb dX5_build_115 rfl ?_
    obtain ⟨u9, hu9⟩ : ∃ u9 : Nat × (Nat → Int32) × (Nat → Nat → Int32), u9 = (n + 1, (fun k => match k with | 0 => len | 1 => att | _ => en), (fun k => match k with | 0 => (ftPut 3 td (nI j) 1) | 1 => (ftIns kf n (ftIdx pf (nf 0) n) ((nI j) - 3)) | 2 => (ftIns pf n (ftIdx pf (nf 0) n) (nf 0)) | 3 => (ftIns lf n (ftIdx pf (nf 0) n) (nf 1)) | _ => (ftIns rf n (ftIdx pf (nf 0) n) (nf 2)))) := ⟨_, rfl⟩
    have hw9 : ([(a0, .inr (5, [.ref ag, .ref am, .ref ad, .ref b0, .int (nI tn), .int v1, .int v2, .int v3, .int v4])), (am, .inl (cI, 3, .inl nf)), (ad, .inl (cI, 3, .inl (ftPut 3 td (nI j) 1))), (b0, .inr (4, [.int len, .int att, .int en, .int (nI (n + 1)), .ref bk, .ref bp, .ref bl, .ref br])), (bk, .inl (cI, 10, .inl (ftIns kf n (ftIdx pf (nf 0) n) ((nI j) - 3)))), (bp, .inl (cI, 10, .inl (ftIns pf n (ftIdx pf (nf 0) n) (nf 0)))), (bl, .inl (cI, 10, .inl (ftIns lf n (ftIdx pf (nf 0) n) (nf 1)))), (br, .inl (cI, 10, .inl (ftIns rf n (ftIdx pf (nf 0) n) (nf 2))))] : va_W) = [(a0, .inr (5, [.ref ag, .ref am, .ref ad, .ref b0, .int (nI tn), .int v1, .int v2, .int v3, .int v4])), (am, .inl (cI, 3, .inl nf)), (ad, .inl (cI, 3, .inl (u9.2.2 0))), (b0, .inr (4, [.int (u9.2.1 0), .int (u9.2.1 1), .int (u9.2.1 2), .int (nI u9.1), .ref bk, .ref bp, .ref bl, .ref br])), (bk, .inl (cI, 10, .inl (u9.2.2 1))), (bp, .inl (cI, 10, .inl (u9.2.2 2))), (bl, .inl (cI, 10, .inl (u9.2.2 3))), (br, .inl (cI, 10, .inl (u9.2.2 4)))] := by subst hu9; rfl
    rw [hw9] at hP hD
    have hf9_0 : ftLR (if nI j < 3 then upd mm j (nf 0) else ftAdd mm n (nI j - 3) (nf 0) (nf 1) (if nI j = 4 then nf 2 else 0)) (u9.2.1 0) (u9.2.1 1) (u9.2.1 2) u9.1 (u9.2.2 1) (u9.2.2 2) (u9.2.2 3) (u9.2.2 4) := by rw [hu9, hBL]; exact hfin
    have hf9_1 : ftTd (u9.2.2 0) (h ||| 2 ^ j) := by rw [hu9]; exact htd9
    exact W.vret hx hb hr (fun t ht hW => ⟨⟨u9, rfl, ⟨hf9_0, hf9_1⟩, by rw [ht]; exact hP, by rw [hAe]; exact hD⟩, by rw [hAe]; exact hS.F ht⟩) hS.2.2 dX5_build_116
