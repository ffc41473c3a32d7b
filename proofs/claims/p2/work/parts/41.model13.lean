/-! the reference: count, lineLoss, sample, echo -/
theorem ft_btw {x : Int32} {K : Nat} (hK : K < 2 ^ 30) (h0 : 0 ≤ x) (h : x ≤ nI K - 1) : x.toNatClampNeg < K ∧ x = nI x.toNatClampNeg := by
  obtain ⟨e, hl⟩ := ftI_nat h0
  refine ⟨?_, e⟩
  rw [e] at h
  rcases Nat.eq_zero_or_pos K with z | z
  · subst z
    have h1 : (nI x.toNatClampNeg).toInt ≤ (nI 0 - 1 : Int32).toInt := Int32.le_iff_toInt_le.mp h
    rw [nI_toInt hl] at h1
    have h2 : (nI 0 - 1 : Int32).toInt = -1 := by decide
    omega
  · rw [show nI K - 1 = nI (K - 1) from ft_subN (b := 1) z] at h
    have := ft_leN hl (by omega) h
    omega
theorem ft_btw2 {x : Int32} {K : Nat} (hK : K < 2 ^ 31) (h0 : 0 ≤ x) (h : x ≤ nI K) : x.toNatClampNeg ≤ K ∧ x = nI x.toNatClampNeg := ⟨ftI_le h0 h hK, (ftI_nat h0).1⟩
theorem ftCG_le {w : Nat → Int32} (h : ftWf w) : (ftCG w).1 ≤ 55 := ftGms_le _ _ _ _ _ _ (ftFW_ok h.1 _ _).1
def ftCntK (w : Nat → Int32) (hm tn k : Nat) : Int32 := if k ≤ 10 then w (44 + k) else if k < 15 then w (k - 11) else if k = 15 then nI (ftCL w + 60) else if k = 16 then w 55 else if k = 17 then nI hm else nI tn
noncomputable def ftCntA (w : Nat → Int32) (hm tn : Nat) (x : Int32) : Int32 := ftIte (0 ≤ x ∧ x ≤ 18) (ftCntK w hm tn x.toNatClampNeg) (-1000001)
noncomputable def ftLlA (w : Nat → Int32) (x : Int32) : Int32 := ftIte (0 ≤ x ∧ x ≤ w 0) (ftLj w x (ftSum (fun y => ftFw w (nI y) (ftCN w)) x.toNatClampNeg) (ftCN w)) (-1000001)
def ftSmK (w : Nat → Int32) (k : Nat) (x : Int32) : Int32 := if x = 0 then ftCV w k else if x = 1 then ftCB w k else if x = 2 then ftCQ w k else ftCZ w k
noncomputable def ftSmA (w : Nat → Int32) (a b : Int32) : Int32 := ftIte ((0 ≤ a ∧ a ≤ nI (ftCL w + 60 - 1)) ∧ 0 ≤ b ∧ b ≤ 3) (ftSmK w a.toNatClampNeg b) (-1000001)
def ftEcK (w : Nat → Int32) (k : Nat) (x : Int32) : Int32 := if x = 0 then (ftCG w).2.1 k else if x = 1 then (ftCG w).2.2.1 k else if x = 2 then (ftCG w).2.2.2.1 k else (ftCG w).2.2.2.2 k
noncomputable def ftEcA (w : Nat → Int32) (a b : Int32) : Int32 := ftIte (¬ a < 0 ∧ 0 ≤ b ∧ b ≤ 3) (ftIte (a < nI (ftCG w).1) (ftEcK w a.toNatClampNeg b) (-1000004)) (-1000001)
theorem ftSum_s (f : Nat → Int32) (k : Nat) : ftSum f k + f k = ftSum f (k + 1) := rfl
set_option maxHeartbeats 4000000 in
set_option maxRecDepth 100000 in
theorem c_X11_count (l : Launch) (D : va_G) (cI cS : ClassId) (m0 p0 p1 p3 p5 p10 p12 p13 p14 p16 p17 p19 p20 p21 p22 p25 p26 p27 p28 p29 p30 p31 p32 : Nat) (i6 i7 i8 i9 i11 i15 i18 i23 i24 : Int32) (w : Nat → Int32) (hm tn : Nat) (xq0 : Int32) (hwf : ftWf w) : Met l yX11_count wsX11_count ({ frames := 1, cells := 0, slots := 0, locals := 25 }) (ftRO D cI cS [.ref m0, .int xq0] [(m0, .inr (11, [.ref p0, .ref p1, .int (nI hm), .ref p3, .int (nI tn), .ref p5, .int i6, .int i7, .int i8, .int i9, .ref p10, .int i11, .ref p12, .ref p13, .ref p14, .int i15, .ref p16, .ref p17, .int i18, .ref p19, .ref p20, .ref p21, .ref p22, .int i23, .int i24, .ref p25, .ref p26, .ref p27, .ref p28, .ref p29, .ref p30, .ref p31, .ref p32])), (p0, .inl (cI, 1439, .inl w))]) (vp_Si (fun o9 => o9 = ftCntA w hm tn xq0)) 0 0 (fun _ => False) := by
  refine Met.ofW (cc := cX11_count) (maxL := 2) (ret := (some .int)) (by decide) rfl ?_
  intro p e s m args below meth c s₁ B hml hv
  obtain ⟨rfl, hP, hKK⟩ := hv
  have hK := hKK.1
  have hx := B.exec
  have hb := B.bytes
  have hr := B.returns
  have hts := atoms_spec (ws := wsX11_count) B.pre
  have hown : s.vm.findClass RX11 = some m.cls := findClass_of_methodNamed B.named
  have hlocks := B.notSynchronized
  have hP : va_P D vwCl [(m0, .inr (11, [.ref p0, .ref p1, .int (nI hm), .ref p3, .int (nI tn), .ref p5, .int i6, .int i7, .int i8, .int i9, .ref p10, .int i11, .ref p12, .ref p13, .ref p14, .int i15, .ref p16, .ref p17, .int i18, .ref p19, .ref p20, .ref p21, .ref p22, .int i23, .int i24, .ref p25, .ref p26, .ref p27, .ref p28, .ref p29, .ref p30, .ref p31, .ref p32])), (p0, .inl (cI, 1439, .inl w))] s.heap := hP
  have hl := lv_entry ([.ref m0, .int xq0]) (n := 2) (Nat.le_of_ble_eq_true rfl)
  rw [lg_entry_eq]
  generalize (lg_sl ([.ref m0, .int xq0]) ++ List.replicate (2 - (lg_sl ([.ref m0, .int xq0])).length) Slot.unset).toArray = ls at hl ⊢
  have hl : lv_has ls 2 [(0, .ref m0), (1, .int xq0)] := hl
  have hw3 := ftWf_3 hwf
  have hn := ftWf_n hwf
  have hw0 := ftWf_0 hwf
  have hln := ftWf_ln hwf
  have hlg := ftWf_lg hwf
  refine lv_iload_n hx hb dX11_count_0 rfl (lv_at hl 1 rfl) ?_
  refine lv_i2l (v := xq0.toInt64) hx hb dX11_count_1 rfl ?_
  refine lv_lconst (v := 0) hx hb dX11_count_2 (by decide) ?_
  refine lv_ldc2 (v := 18) hx hb hown (hts (.constantLong RX11 197 18) (by decide +kernel)) dX11_count_3 ?_
  refine ft_csi (r := ftB (0 ≤ xq0.toInt64 ∧ xq0.toInt64 ≤ 18)) (va_runS (As := [.long xq0.toInt64, .long 0, .long 18]) (rest := []) ⟨hx, hb, hml, hown, hts⟩ (c_X11_in l D cI cS xq0.toInt64 0 18) (va_cwS 3 hts gX11_count_X11_in rfl rfl rfl (by decide +kernel) ⟨Nat.le_of_ble_eq_true rfl, Nat.le_of_ble_eq_true rfl⟩) (ft_preRO hP hKK [] rfl) rfl rfl hl.1 rfl (lv_room (Nat.le_of_ble_eq_true rfl)) dX11_count_6 ⟨Nat.le_of_ble_eq_true rfl, Nat.le_of_ble_eq_true rfl⟩) ?_
  refine ft_top (y := ftB (0 ≤ xq0 ∧ xq0 ≤ 18)) (ft_in64 (by decide) (by decide)) ?_
  refine lv_if_ne (tgt := 15) hx hb dX11_count_9 (by decide) (fun c9 => ?_) (fun c9 => ?_)
  · replace c9 := ftB_ne c9
    obtain ⟨hk9, hxk⟩ := ft_btw2 (K := 18) (by omega) c9.1 c9.2
    generalize hk8 : xq0.toNatClampNeg = k9 at hk9 hxk
    rw [hxk] at hl
    refine lv_iload_n hx hb dX11_count_15 rfl (lv_at hl 1 rfl) ?_
    refine lv_bipush (v := 10) hx hb dX11_count_16 (by decide) ?_
    refine lv_icmp_gt (tgt := 27) hx hb dX11_count_18 (by decide) (fun c18 => ?_) (fun c18 => ?_)
    · have c18n : 10 < k9 := ft_ltN (by omega) (by omega) c18
      refine lv_iload_n hx hb dX11_count_27 rfl (lv_at hl 1 rfl) ?_
      refine lv_bipush (v := 15) hx hb dX11_count_28 (by decide) ?_
      refine lv_icmp_ge (tgt := 45) hx hb dX11_count_30 (by decide) (fun c30 => ?_) (fun c30 => ?_)
      · have c30n : 15 ≤ k9 := ft_leN (by omega) (by omega) c30
        refine lv_iload_n hx hb dX11_count_45 rfl (lv_at hl 1 rfl) ?_
        refine lv_bipush (v := 15) hx hb dX11_count_46 (by decide) ?_
        refine lv_icmp_ne (tgt := 58) hx hb dX11_count_48 (by decide) (fun c48 => ?_) (fun c48 => ?_)
        · have c48n : k9 ≠ 15 := ft_neN (by omega) (by omega) c48
          refine lv_iload_n hx hb dX11_count_58 rfl (lv_at hl 1 rfl) ?_
          refine lv_bipush (v := 16) hx hb dX11_count_59 (by decide) ?_
          refine lv_icmp_ne (tgt := 74) hx hb dX11_count_61 (by decide) (fun c61 => ?_) (fun c61 => ?_)
          · have c61n : k9 ≠ 16 := ft_neN (by omega) (by omega) c61
            refine lv_iload_n hx hb dX11_count_74 rfl (lv_at hl 1 rfl) ?_
            refine lv_bipush (v := 17) hx hb dX11_count_75 (by decide) ?_
            refine lv_icmp_ne (tgt := 87) hx hb dX11_count_77 (by decide) (fun c77 => ?_) (fun c77 => ?_)
            · have c77n : k9 ≠ 17 := ft_neN (by omega) (by omega) c77
              refine lv_aload_n hx hb dX11_count_87 rfl (lv_at hl 0 rfl) ?_
              refine va_get (D := D) (ci := 11) (v := .int (nI tn)) (C := RX11) (T := TX11) (N := 33) hx hb hts (by decide +kernel) hown hK hP 0 rfl rfl 4 (by decide) (hts (.fieldLink RX11 96 "FiberTraceModel" "length" "I") (by decide +kernel)) (fun _ h9 => h9) rfl dX11_count_88 ?_
              exact W.iret (v := nI tn) hx hb hr (fun t ht hW => ⟨nI tn, rfl, (by show (nI tn : Int32) = ftCntA w hm tn xq0; rw [ftCntA, ftIte_t c9, hk8, ftCntK, if_neg (show ¬ k9 ≤ 10 by omega)]; first | (rw [if_pos c30n]; done) | (rw [if_neg (show ¬ k9 < 15 by omega), if_pos c48n]; done) | (rw [if_neg (show ¬ k9 < 15 by omega), if_neg c48n, if_pos c61n]; done) | (rw [if_neg (show ¬ k9 < 15 by omega), if_neg c48n, if_neg c61n, if_pos c77n]; done) | (rw [if_neg (show ¬ k9 < 15 by omega), if_neg c48n, if_neg c61n, if_neg c77n]; done)), ht⟩) (fun _ h9 => absurd h9 List.not_mem_nil) dX11_count_91
            · have c77n : k9 = 17 := ft_eqN (by omega) (by omega) c77
              refine lv_aload_n hx hb dX11_count_80 rfl (lv_at hl 0 rfl) ?_
              refine va_get (D := D) (ci := 11) (v := .int (nI hm)) (C := RX11) (T := TX11) (N := 33) hx hb hts (by decide +kernel) hown hK hP 0 rfl rfl 2 (by decide) (hts (.fieldLink RX11 82 "FiberTraceModel" "stateMany" "I") (by decide +kernel)) (fun _ h9 => h9) rfl dX11_count_81 ?_
              refine lv_goto (tgt := 91) hx hb dX11_count_84 (by decide) ?_
              exact W.iret (v := nI hm) hx hb hr (fun t ht hW => ⟨nI hm, rfl, (by show (nI hm : Int32) = ftCntA w hm tn xq0; rw [ftCntA, ftIte_t c9, hk8, ftCntK, if_neg (show ¬ k9 ≤ 10 by omega)]; first | (rw [if_pos c30n]; done) | (rw [if_neg (show ¬ k9 < 15 by omega), if_pos c48n]; done) | (rw [if_neg (show ¬ k9 < 15 by omega), if_neg c48n, if_pos c61n]; done) | (rw [if_neg (show ¬ k9 < 15 by omega), if_neg c48n, if_neg c61n, if_pos c77n]; done) | (rw [if_neg (show ¬ k9 < 15 by omega), if_neg c48n, if_neg c61n, if_neg c77n]; done)), ht⟩) (fun _ h9 => absurd h9 List.not_mem_nil) dX11_count_91
          · have c61n : k9 = 16 := ft_eqN (by omega) (by omega) c61
            refine lv_aload_n hx hb dX11_count_64 rfl (lv_at hl 0 rfl) ?_
            refine va_get (D := D) (ci := 11) (v := .ref p0) (C := RX11) (T := TX11) (N := 33) hx hb hts (by decide +kernel) hown hK hP 0 rfl rfl 0 (by decide) (hts (.fieldLink RX11 7 "FiberTraceModel" "now" "[I") (by decide +kernel)) (fun _ h9 => h9) rfl dX11_count_65 ?_
            refine lv_bipush (v := 55) hx hb dX11_count_68 (by decide) ?_
            refine va_iald hx hb hK hP 1 0 rfl rfl (vp_in_nI (n := 55) (by omega) (by omega)) dX11_count_70 ?_
            refine ft_top (y := w 55) rfl ?_
            refine lv_goto (tgt := 91) hx hb dX11_count_71 (by decide) ?_
            exact W.iret (v := w 55) hx hb hr (fun t ht hW => ⟨w 55, rfl, (by show (w 55 : Int32) = ftCntA w hm tn xq0; rw [ftCntA, ftIte_t c9, hk8, ftCntK, if_neg (show ¬ k9 ≤ 10 by omega)]; first | (rw [if_pos c30n]; done) | (rw [if_neg (show ¬ k9 < 15 by omega), if_pos c48n]; done) | (rw [if_neg (show ¬ k9 < 15 by omega), if_neg c48n, if_pos c61n]; done) | (rw [if_neg (show ¬ k9 < 15 by omega), if_neg c48n, if_neg c61n, if_pos c77n]; done) | (rw [if_neg (show ¬ k9 < 15 by omega), if_neg c48n, if_neg c61n, if_neg c77n]; done)), ht⟩) (fun _ h9 => absurd h9 List.not_mem_nil) dX11_count_91
        · have c48n : k9 = 15 := ft_eqN (by omega) (by omega) c48
          refine lv_aload_n hx hb dX11_count_51 rfl (lv_at hl 0 rfl) ?_
          refine ft_csi (r := nI ((ftCL w) + 60)) (va_runV (C := RX11) (As := []) (rest := []) ⟨hx, hb, hml, hown, hts⟩ (c_X11_samples l D cI cS m0 p0 p1 p3 p5 p10 p12 p13 p14 p16 p17 p19 p20 p21 p22 p25 p26 p27 p28 p29 p30 p31 p32 (nI hm) (nI tn) i6 i7 i8 i9 i11 i15 i18 i23 i24 w (ftCL w) hw0) (cwV 0 hts gX11_count_X11_samples rfl rfl rfl (by decide +kernel) ⟨Nat.le_of_ble_eq_true rfl, Nat.le_of_ble_eq_true rfl⟩) (ft_preROV (ci := 11) (q0 := 0) hP hKK [0, 1] rfl rfl rfl) rfl rfl hl.1 rfl (lv_room (Nat.le_of_ble_eq_true rfl)) dX11_count_52 ⟨Nat.le_of_ble_eq_true rfl, Nat.le_of_ble_eq_true rfl⟩) ?_
          refine lv_goto (tgt := 91) hx hb dX11_count_55 (by decide) ?_
          exact W.iret (v := nI ((ftCL w) + 60)) hx hb hr (fun t ht hW => ⟨nI ((ftCL w) + 60), rfl, (by show (nI ((ftCL w) + 60) : Int32) = ftCntA w hm tn xq0; rw [ftCntA, ftIte_t c9, hk8, ftCntK, if_neg (show ¬ k9 ≤ 10 by omega)]; first | (rw [if_pos c30n]; done) | (rw [if_neg (show ¬ k9 < 15 by omega), if_pos c48n]; done) | (rw [if_neg (show ¬ k9 < 15 by omega), if_neg c48n, if_pos c61n]; done) | (rw [if_neg (show ¬ k9 < 15 by omega), if_neg c48n, if_neg c61n, if_pos c77n]; done) | (rw [if_neg (show ¬ k9 < 15 by omega), if_neg c48n, if_neg c61n, if_neg c77n]; done)), ht⟩) (fun _ h9 => absurd h9 List.not_mem_nil) dX11_count_91
      · have c30n : k9 < 15 := ft_nleN (by omega) (by omega) c30
        refine lv_aload_n hx hb dX11_count_33 rfl (lv_at hl 0 rfl) ?_
        refine va_get (D := D) (ci := 11) (v := .ref p0) (C := RX11) (T := TX11) (N := 33) hx hb hts (by decide +kernel) hown hK hP 0 rfl rfl 0 (by decide) (hts (.fieldLink RX11 7 "FiberTraceModel" "now" "[I") (by decide +kernel)) (fun _ h9 => h9) rfl dX11_count_34 ?_
        refine lv_iload_n hx hb dX11_count_37 rfl (lv_at hl 1 rfl) ?_
        refine lv_bipush (v := 11) hx hb dX11_count_38 (by decide) ?_
        refine lv_isub hx hb dX11_count_40 ?_
        refine ft_top (y := nI (k9 - 11)) (ft_subN (a := k9) (b := 11) (by omega)) ?_
        refine va_iald hx hb hK hP 1 0 rfl rfl (vp_in_nI (by omega) (by omega)) dX11_count_41 ?_
        refine ft_top (y := w (k9 - 11)) (ft_clampN (by omega)) ?_
        refine lv_goto (tgt := 91) hx hb dX11_count_42 (by decide) ?_
        exact W.iret (v := w (k9 - 11)) hx hb hr (fun t ht hW => ⟨w (k9 - 11), rfl, (by show (w (k9 - 11) : Int32) = ftCntA w hm tn xq0; rw [ftCntA, ftIte_t c9, hk8, ftCntK, if_neg (show ¬ k9 ≤ 10 by omega)]; first | (rw [if_pos c30n]; done) | (rw [if_neg (show ¬ k9 < 15 by omega), if_pos c48n]; done) | (rw [if_neg (show ¬ k9 < 15 by omega), if_neg c48n, if_pos c61n]; done) | (rw [if_neg (show ¬ k9 < 15 by omega), if_neg c48n, if_neg c61n, if_pos c77n]; done) | (rw [if_neg (show ¬ k9 < 15 by omega), if_neg c48n, if_neg c61n, if_neg c77n]; done)), ht⟩) (fun _ h9 => absurd h9 List.not_mem_nil) dX11_count_91
    · have c18n : k9 ≤ 10 := ft_nltN (by omega) (by omega) c18
      refine lv_aload_n hx hb dX11_count_21 rfl (lv_at hl 0 rfl) ?_
      refine lv_iload_n hx hb dX11_count_22 rfl (lv_at hl 1 rfl) ?_
      refine ft_csi (r := w (44 + k9)) (va_runV (C := RX11) (As := [.int (nI k9)]) (rest := []) ⟨hx, hb, hml, hown, hts⟩ (c_X11_setting l D cI cS m0 p0 p1 p3 p5 p10 p12 p13 p14 p16 p17 p19 p20 p21 p22 p25 p26 p27 p28 p29 p30 p31 p32 (nI hm) (nI tn) i6 i7 i8 i9 i11 i15 i18 i23 i24 w k9 (by first | assumption | omega)) (cwV 1 hts gX11_count_X11_setting rfl rfl rfl (by decide +kernel) ⟨Nat.le_of_ble_eq_true rfl, Nat.le_of_ble_eq_true rfl⟩) (ft_preROV (ci := 11) (q0 := 0) hP hKK [0, 1] rfl rfl rfl) rfl rfl hl.1 rfl (lv_room (Nat.le_of_ble_eq_true rfl)) dX11_count_23 ⟨Nat.le_of_ble_eq_true rfl, Nat.le_of_ble_eq_true rfl⟩) ?_
      exact W.iret (v := w (44 + k9)) hx hb hr (fun t ht hW => ⟨w (44 + k9), rfl, (by show (w (44 + k9) : Int32) = ftCntA w hm tn xq0; rw [ftCntA, ftIte_t c9, hk8, ftCntK, if_pos c18n]), ht⟩) (fun _ h9 => absurd h9 List.not_mem_nil) dX11_count_26
  · replace c9 := ftB_eq c9
    refine lv_ldc (v := (-1000001)) hx hb hown (hts (.constant RX11 95 (-1000001)) (by decide +kernel)) dX11_count_12 ?_
    exact W.iret (v := (-1000001)) hx hb hr (fun t ht hW => ⟨(-1000001), rfl, (by show ((-1000001) : Int32) = ftCntA w hm tn xq0; exact (ftIte_f c9).symm), ht⟩) (fun _ h9 => absurd h9 List.not_mem_nil) dX11_count_14
set_option maxHeartbeats 4000000 in
set_option maxRecDepth 100000 in
theorem c_X11_lineLoss (l : Launch) (D : va_G) (cI cS : ClassId) (m0 p0 p1 p3 p5 p10 p12 p13 p14 p16 p17 p19 p20 p21 p22 p25 p26 p27 p28 p29 p30 p31 p32 : Nat) (i2 i4 i6 i7 i8 i9 i11 i15 i18 i23 i24 : Int32) (w : Nat → Int32) (xq0 : Int32) (hwf : ftWf w) : Met l yX11_lineLoss wsX11_lineLoss ({ frames := 2, cells := 0, slots := 0, locals := 45 }) (ftRO D cI cS [.ref m0, .int xq0] [(m0, .inr (11, [.ref p0, .ref p1, .int i2, .ref p3, .int i4, .ref p5, .int i6, .int i7, .int i8, .int i9, .ref p10, .int i11, .ref p12, .ref p13, .ref p14, .int i15, .ref p16, .ref p17, .int i18, .ref p19, .ref p20, .ref p21, .ref p22, .int i23, .int i24, .ref p25, .ref p26, .ref p27, .ref p28, .ref p29, .ref p30, .ref p31, .ref p32])), (p0, .inl (cI, 1439, .inl w))]) (vp_Si (fun o9 => o9 = ftLlA w xq0)) 0 0 (fun _ => False) := by
  refine Met.ofW (cc := cX11_lineLoss) (maxL := 4) (ret := (some .int)) (by decide) rfl ?_
  intro p e s m args below meth c s₁ B hml hv
  obtain ⟨rfl, hP, hKK⟩ := hv
  have hK := hKK.1
  have hx := B.exec
  have hb := B.bytes
  have hr := B.returns
  have hts := atoms_spec (ws := wsX11_lineLoss) B.pre
  have hown : s.vm.findClass RX11 = some m.cls := findClass_of_methodNamed B.named
  have hlocks := B.notSynchronized
  have hP : va_P D vwCl [(m0, .inr (11, [.ref p0, .ref p1, .int i2, .ref p3, .int i4, .ref p5, .int i6, .int i7, .int i8, .int i9, .ref p10, .int i11, .ref p12, .ref p13, .ref p14, .int i15, .ref p16, .ref p17, .int i18, .ref p19, .ref p20, .ref p21, .ref p22, .int i23, .int i24, .ref p25, .ref p26, .ref p27, .ref p28, .ref p29, .ref p30, .ref p31, .ref p32])), (p0, .inl (cI, 1439, .inl w))] s.heap := hP
  have hl := lv_entry ([.ref m0, .int xq0]) (n := 4) (Nat.le_of_ble_eq_true rfl)
  rw [lg_entry_eq]
  generalize (lg_sl ([.ref m0, .int xq0]) ++ List.replicate (4 - (lg_sl ([.ref m0, .int xq0])).length) Slot.unset).toArray = ls at hl ⊢
  have hl : lv_has ls 4 [(0, .ref m0), (1, .int xq0)] := hl
  have hw3 := ftWf_3 hwf
  have hn := ftWf_n hwf
  have hw0 := ftWf_0 hwf
  have hln := ftWf_ln hwf
  have hlg := ftWf_lg hwf
  refine lv_iload_n hx hb dX11_lineLoss_0 rfl (lv_at hl 1 rfl) ?_
  refine lv_i2l (v := xq0.toInt64) hx hb dX11_lineLoss_1 rfl ?_
  refine lv_lconst (v := 0) hx hb dX11_lineLoss_2 (by decide) ?_
  refine lv_aload_n hx hb dX11_lineLoss_3 rfl (lv_at hl 0 rfl) ?_
  refine va_get (D := D) (ci := 11) (v := .ref p0) (C := RX11) (T := TX11) (N := 33) hx hb hts (by decide +kernel) hown hK hP 0 rfl rfl 0 (by decide) (hts (.fieldLink RX11 7 "FiberTraceModel" "now" "[I") (by decide +kernel)) (fun _ h9 => h9) rfl dX11_lineLoss_4 ?_
  refine lv_iconst (v := 0) hx hb dX11_lineLoss_7 (by decide) ?_
  refine va_iald hx hb hK hP 1 0 rfl rfl (vp_in_nI (n := 0) (by omega) (by omega)) dX11_lineLoss_8 ?_
  refine ft_top (y := w 0) rfl ?_
  refine lv_i2l (v := (w 0).toInt64) hx hb dX11_lineLoss_9 rfl ?_
  refine ft_csi (r := ftB (0 ≤ xq0.toInt64 ∧ xq0.toInt64 ≤ ((w 0).toInt64))) (va_runS (As := [.long xq0.toInt64, .long 0, .long ((w 0).toInt64)]) (rest := []) ⟨hx, hb, hml, hown, hts⟩ (c_X11_in l D cI cS xq0.toInt64 0 ((w 0).toInt64)) (va_cwS 3 hts gX11_lineLoss_X11_in rfl rfl rfl (by decide +kernel) ⟨Nat.le_of_ble_eq_true rfl, Nat.le_of_ble_eq_true rfl⟩) (ft_preRO hP hKK [] rfl) rfl rfl hl.1 rfl (lv_room (Nat.le_of_ble_eq_true rfl)) dX11_lineLoss_10 ⟨Nat.le_of_ble_eq_true rfl, Nat.le_of_ble_eq_true rfl⟩) ?_
  refine ft_top (y := ftB (0 ≤ xq0 ∧ xq0 ≤ (w 0))) (ft_in64 (by decide) (Int32.toInt_toInt64 _)) ?_
  refine lv_if_ne (tgt := 19) hx hb dX11_lineLoss_13 (by decide) (fun c13 => ?_) (fun c13 => ?_)
  · replace c13 := ftB_ne c13
    obtain ⟨hk9, hxk⟩ := ft_btw2 (K := ftCL w) (by omega) c13.1 (by rw [← hw0]; exact c13.2)
    generalize hk8 : xq0.toNatClampNeg = k9 at hk9 hxk
    rw [hxk] at hl
    refine lv_iconst (v := 0) hx hb dX11_lineLoss_19 (by decide) ?_
    refine lv_istore_n (lv' := [(2, .int 0), (0, .ref m0), (1, .int (nI k9))]) hx hb dX11_lineLoss_20 rfl hl (by decide) rfl (fun ls hl => ?_)
    refine lv_iconst (v := 0) hx hb dX11_lineLoss_21 (by decide) ?_
    refine lv_istore_n (lv' := [(3, .int 0), (2, .int 0), (0, .ref m0), (1, .int (nI k9))]) hx hb dX11_lineLoss_22 rfl hl (by decide) rfl (fun ls hl => ?_)
    have lp23 : ∀ (n23 : Nat) (t : Nat) (x23_2 : Int32) (x23_3 : Int32), k9 - t < n23 → (t ≤ k9) → x23_2 = ftSum (fun y => ftFw w (nI y) (ftCN w)) t → x23_3 = nI t → ∀ ls : Array Slot, lv_has ls 4 [(0, .ref m0), (1, .int (nI k9)), (2, .int x23_2), (3, .int x23_3)] → W p l e (headSpec wsX11_lineLoss { frames := 2, cells := 0, slots := 0, locals := 45 }).room s m ([.ref m0, .int xq0] : List Value).toArray below meth c s.heap [] 0 0 (MQ below (vp_Si (fun o9 => o9 = ftLlA w xq0)) ([.ref m0, .int xq0] : List Value).toArray s 0 0 (fun _ => False)) (F0 m 23 ls []) := by
      intro n23
      induction n23 with
      | zero =>
        intro t x23_2 x23_3  hm23
        exact absurd hm23 (Nat.not_lt_zero _)
      | succ n23 ih23 =>
        intro t x23_2 x23_3  hm23 htk ex23_2 ex23_3  ls hl
        subst ex23_3
        refine lv_iload_n hx hb dX11_lineLoss_23 rfl (lv_at hl 3 rfl) ?_
        refine lv_iload_n hx hb dX11_lineLoss_24 rfl (lv_at hl 1 rfl) ?_
        refine lv_icmp_ge (tgt := 42) hx hb dX11_lineLoss_25 (by decide) (fun c25 => ?_) (fun c25 => ?_)
        · have c25n : k9 ≤ t := ft_leN (by omega) (by omega) c25
          refine lv_iconst (v := 0) hx hb dX11_lineLoss_42 (by decide) ?_
          refine lv_istore_n (lv' := [(3, .int 0), (0, .ref m0), (1, .int (nI k9)), (2, .int x23_2)]) hx hb dX11_lineLoss_43 rfl hl (by decide) rfl (fun ls hl => ?_)
          have lp44 : ∀ (n44 : Nat) (k : Nat) (x44_2 : Int32) (x44_3 : Int32), ftCN w - k < n44 → (k ≤ ftCN w) → x44_2 = ftLj w (nI k9) (ftSum (fun y => ftFw w (nI y) (ftCN w)) k9) k → x44_3 = nI k → ∀ ls : Array Slot, lv_has ls 4 [(0, .ref m0), (1, .int (nI k9)), (2, .int x44_2), (3, .int x44_3)] → W p l e (headSpec wsX11_lineLoss { frames := 2, cells := 0, slots := 0, locals := 45 }).room s m ([.ref m0, .int xq0] : List Value).toArray below meth c s.heap [] 0 0 (MQ below (vp_Si (fun o9 => o9 = ftLlA w xq0)) ([.ref m0, .int xq0] : List Value).toArray s 0 0 (fun _ => False)) (F0 m 44 ls []) := by
            intro n44
            induction n44 with
            | zero =>
              intro k x44_2 x44_3  hm44
              exact absurd hm44 (Nat.not_lt_zero _)
            | succ n44 ih44 =>
              intro k x44_2 x44_3  hm44 hkn ex44_2 ex44_3  ls hl
              subst ex44_3
              refine lv_iload_n hx hb dX11_lineLoss_44 rfl (lv_at hl 3 rfl) ?_
              refine lv_aload_n hx hb dX11_lineLoss_45 rfl (lv_at hl 0 rfl) ?_
              refine va_get (D := D) (ci := 11) (v := .ref p0) (C := RX11) (T := TX11) (N := 33) hx hb hts (by decide +kernel) hown hK hP 0 rfl rfl 0 (by decide) (hts (.fieldLink RX11 7 "FiberTraceModel" "now" "[I") (by decide +kernel)) (fun _ h9 => h9) rfl dX11_lineLoss_46 ?_
              refine lv_iconst (v := 3) hx hb dX11_lineLoss_49 (by decide) ?_
              refine va_iald hx hb hK hP 1 0 rfl rfl (vp_in_nI (n := 3) (by omega) (by omega)) dX11_lineLoss_50 ?_
              refine ft_top (y := w 3) rfl ?_
              refine ft_top (y := nI (ftCN w)) hw3 ?_
              refine lv_icmp_ge (tgt := 93) hx hb dX11_lineLoss_51 (by decide) (fun c51 => ?_) (fun c51 => ?_)
              · have c51n : (ftCN w) ≤ k := ft_leN (by omega) (by omega) c51
                refine lv_iload_n hx hb dX11_lineLoss_93 rfl (lv_at hl 2 rfl) ?_
                exact W.iret (v := x44_2) hx hb hr (fun t ht hW => ⟨x44_2, rfl, (by show (x44_2 : Int32) = ftLlA w xq0; rw [ftLlA, ftIte_t c13, hk8, ex44_2, show k = ftCN w by omega, ← hxk]), ht⟩) (fun _ h9 => absurd h9 List.not_mem_nil) dX11_lineLoss_94
              · have c51n : k < (ftCN w) := ft_nleN (by omega) (by omega) c51
                refine lv_iload_n hx hb dX11_lineLoss_54 rfl (lv_at hl 2 rfl) ?_
                refine lv_aload_n hx hb dX11_lineLoss_55 rfl (lv_at hl 0 rfl) ?_
                refine lv_iload_n hx hb dX11_lineLoss_56 rfl (lv_at hl 3 rfl) ?_
                refine lv_iconst (v := 0) hx hb dX11_lineLoss_57 (by decide) ?_
                refine ft_csi (r := w (4 + 4 * k + 0)) (va_runV (C := RX11) (As := [.int (nI k), .int 0]) (rest := [.int x44_2]) ⟨hx, hb, hml, hown, hts⟩ (c_X11_at l D cI cS m0 p0 p1 p3 p5 p10 p12 p13 p14 p16 p17 p19 p20 p21 p22 p25 p26 p27 p28 p29 p30 p31 p32 i2 i4 i6 i7 i8 i9 i11 i15 i18 i23 i24 w k 0 (by first | assumption | omega) (by first | assumption | omega)) (cwV 2 hts gX11_lineLoss_X11_at rfl rfl rfl (by decide +kernel) ⟨Nat.le_of_ble_eq_true rfl, Nat.le_of_ble_eq_true rfl⟩) (ft_preROV (ci := 11) (q0 := 0) hP hKK [0, 1] rfl rfl rfl) rfl rfl hl.1 rfl (lv_room (Nat.le_of_ble_eq_true rfl)) dX11_lineLoss_58 ⟨Nat.le_of_ble_eq_true rfl, Nat.le_of_ble_eq_true rfl⟩) ?_
                refine lv_iconst (v := 2) hx hb dX11_lineLoss_61 (by decide) ?_
                refine lv_icmp_ge (tgt := 84) hx hb dX11_lineLoss_62 (by decide) (fun c62 => ?_) (fun c62 => ?_)
                · refine lv_iconst (v := 0) hx hb dX11_lineLoss_84 (by decide) ?_
                  refine lv_iadd hx hb dX11_lineLoss_85 ?_
                  refine lv_istore_n (lv' := [(2, .int (x44_2 + 0)), (0, .ref m0), (1, .int (nI k9)), (3, .int (nI k))]) hx hb dX11_lineLoss_86 rfl hl (by decide) rfl (fun ls hl => ?_)
                  refine lv_iinc (v := nI (k + 1)) (lv' := [(3, .int (nI (k + 1))), (2, .int (x44_2 + 0)), (0, .ref m0), (1, .int (nI k9))]) hx hb dX11_lineLoss_87 hl (k := 3) rfl (ft_inc k) (by decide) rfl (fun ls hl => ?_)
                  refine lv_goto (tgt := 44) hx hb dX11_lineLoss_90 (by decide) ?_
                  exact ih44 (k + 1) (x44_2 + 0) (nI (k + 1))  (by omega) (by omega) (by first | exact ftLj_t ex44_2 (Int32.not_le.mp c62) (Int32.not_le.mp c72) | exact ftLj_2 ex44_2 c72 | exact ftLj_1 ex44_2 c62) (by first | rfl | assumption)  ls (lv_sub hl [2, 3, 1, 0] rfl)
                · refine lv_aload_n hx hb dX11_lineLoss_65 rfl (lv_at hl 0 rfl) ?_
                  refine lv_iload_n hx hb dX11_lineLoss_66 rfl (lv_at hl 3 rfl) ?_
                  refine lv_iconst (v := 1) hx hb dX11_lineLoss_67 (by decide) ?_
                  refine ft_csi (r := w (4 + 4 * k + 1)) (va_runV (C := RX11) (As := [.int (nI k), .int 1]) (rest := [.int x44_2]) ⟨hx, hb, hml, hown, hts⟩ (c_X11_at l D cI cS m0 p0 p1 p3 p5 p10 p12 p13 p14 p16 p17 p19 p20 p21 p22 p25 p26 p27 p28 p29 p30 p31 p32 i2 i4 i6 i7 i8 i9 i11 i15 i18 i23 i24 w k 1 (by first | assumption | omega) (by first | assumption | omega)) (cwV 2 hts gX11_lineLoss_X11_at rfl rfl rfl (by decide +kernel) ⟨Nat.le_of_ble_eq_true rfl, Nat.le_of_ble_eq_true rfl⟩) (ft_preROV (ci := 11) (q0 := 0) hP hKK [0, 1] rfl rfl rfl) rfl rfl hl.1 rfl (lv_room (Nat.le_of_ble_eq_true rfl)) dX11_lineLoss_68 ⟨Nat.le_of_ble_eq_true rfl, Nat.le_of_ble_eq_true rfl⟩) ?_
                  refine lv_iload_n hx hb dX11_lineLoss_71 rfl (lv_at hl 1 rfl) ?_
                  refine lv_icmp_ge (tgt := 84) hx hb dX11_lineLoss_72 (by decide) (fun c72 => ?_) (fun c72 => ?_)
                  · refine lv_iconst (v := 0) hx hb dX11_lineLoss_84 (by decide) ?_
                    refine lv_iadd hx hb dX11_lineLoss_85 ?_
                    refine lv_istore_n (lv' := [(2, .int (x44_2 + 0)), (0, .ref m0), (1, .int (nI k9)), (3, .int (nI k))]) hx hb dX11_lineLoss_86 rfl hl (by decide) rfl (fun ls hl => ?_)
                    refine lv_iinc (v := nI (k + 1)) (lv' := [(3, .int (nI (k + 1))), (2, .int (x44_2 + 0)), (0, .ref m0), (1, .int (nI k9))]) hx hb dX11_lineLoss_87 hl (k := 3) rfl (ft_inc k) (by decide) rfl (fun ls hl => ?_)
                    refine lv_goto (tgt := 44) hx hb dX11_lineLoss_90 (by decide) ?_
                    exact ih44 (k + 1) (x44_2 + 0) (nI (k + 1))  (by omega) (by omega) (by first | exact ftLj_t ex44_2 (Int32.not_le.mp c62) (Int32.not_le.mp c72) | exact ftLj_2 ex44_2 c72 | exact ftLj_1 ex44_2 c62) (by first | rfl | assumption)  ls (lv_sub hl [2, 3, 1, 0] rfl)
                  · refine lv_aload_n hx hb dX11_lineLoss_75 rfl (lv_at hl 0 rfl) ?_
                    refine lv_iload_n hx hb dX11_lineLoss_76 rfl (lv_at hl 3 rfl) ?_
                    refine lv_iconst (v := 2) hx hb dX11_lineLoss_77 (by decide) ?_
                    refine ft_csi (r := w (4 + 4 * k + 2)) (va_runV (C := RX11) (As := [.int (nI k), .int 2]) (rest := [.int x44_2]) ⟨hx, hb, hml, hown, hts⟩ (c_X11_at l D cI cS m0 p0 p1 p3 p5 p10 p12 p13 p14 p16 p17 p19 p20 p21 p22 p25 p26 p27 p28 p29 p30 p31 p32 i2 i4 i6 i7 i8 i9 i11 i15 i18 i23 i24 w k 2 (by first | assumption | omega) (by first | assumption | omega)) (cwV 2 hts gX11_lineLoss_X11_at rfl rfl rfl (by decide +kernel) ⟨Nat.le_of_ble_eq_true rfl, Nat.le_of_ble_eq_true rfl⟩) (ft_preROV (ci := 11) (q0 := 0) hP hKK [0, 1] rfl rfl rfl) rfl rfl hl.1 rfl (lv_room (Nat.le_of_ble_eq_true rfl)) dX11_lineLoss_78 ⟨Nat.le_of_ble_eq_true rfl, Nat.le_of_ble_eq_true rfl⟩) ?_
                    refine lv_goto (tgt := 85) hx hb dX11_lineLoss_81 (by decide) ?_
                    refine lv_iadd hx hb dX11_lineLoss_85 ?_
                    refine lv_istore_n (lv' := [(2, .int (x44_2 + (w (4 + 4 * k + 2)))), (0, .ref m0), (1, .int (nI k9)), (3, .int (nI k))]) hx hb dX11_lineLoss_86 rfl hl (by decide) rfl (fun ls hl => ?_)
                    refine lv_iinc (v := nI (k + 1)) (lv' := [(3, .int (nI (k + 1))), (2, .int (x44_2 + (w (4 + 4 * k + 2)))), (0, .ref m0), (1, .int (nI k9))]) hx hb dX11_lineLoss_87 hl (k := 3) rfl (ft_inc k) (by decide) rfl (fun ls hl => ?_)
                    refine lv_goto (tgt := 44) hx hb dX11_lineLoss_90 (by decide) ?_
                    exact ih44 (k + 1) (x44_2 + (w (4 + 4 * k + 2))) (nI (k + 1))  (by omega) (by omega) (by first | exact ftLj_t ex44_2 (Int32.not_le.mp c62) (Int32.not_le.mp c72) | exact ftLj_2 ex44_2 c72 | exact ftLj_1 ex44_2 c62) (by first | rfl | assumption)  ls (lv_sub hl [2, 3, 1, 0] rfl)
          exact lp44 _ 0 x23_2 0  (Nat.lt_succ_self _) (by omega) (by rw [ex23_2, show t = k9 by omega]; rfl) (by rfl) ls (lv_sub hl [1, 2, 3, 0] rfl)
        · have c25n : t < k9 := ft_nleN (by omega) (by omega) c25
          refine lv_iload_n hx hb dX11_lineLoss_28 rfl (lv_at hl 2 rfl) ?_
          refine lv_aload_n hx hb dX11_lineLoss_29 rfl (lv_at hl 0 rfl) ?_
          refine lv_iload_n hx hb dX11_lineLoss_30 rfl (lv_at hl 3 rfl) ?_
          refine ft_csi (r := ftFw w (nI t) (ftCN w)) (va_runV (C := RX11) (As := [.int (nI t)]) (rest := [.int x23_2]) ⟨hx, hb, hml, hown, hts⟩ (c_X11_fadeAt l D cI cS m0 p0 p1 p3 p5 p10 p12 p13 p14 p16 p17 p19 p20 p21 p22 p25 p26 p27 p28 p29 p30 p31 p32 i2 i4 i6 i7 i8 i9 i11 i15 i18 i23 i24 w (nI t) (ftCN w) hw3 hn) (cwV 1 hts gX11_lineLoss_X11_fadeAt rfl rfl rfl (by decide +kernel) ⟨Nat.le_of_ble_eq_true rfl, Nat.le_of_ble_eq_true rfl⟩) (ft_preROV (ci := 11) (q0 := 0) hP hKK [0, 1] rfl rfl rfl) rfl rfl hl.1 rfl (lv_room (Nat.le_of_ble_eq_true rfl)) dX11_lineLoss_31 ⟨Nat.le_of_ble_eq_true rfl, Nat.le_of_ble_eq_true rfl⟩) ?_
          refine lv_iadd hx hb dX11_lineLoss_34 ?_
          refine lv_istore_n (lv' := [(2, .int (x23_2 + (ftFw w (nI t) (ftCN w)))), (0, .ref m0), (1, .int (nI k9)), (3, .int (nI t))]) hx hb dX11_lineLoss_35 rfl hl (by decide) rfl (fun ls hl => ?_)
          refine lv_iinc (v := nI (t + 1)) (lv' := [(3, .int (nI (t + 1))), (2, .int (x23_2 + (ftFw w (nI t) (ftCN w)))), (0, .ref m0), (1, .int (nI k9))]) hx hb dX11_lineLoss_36 hl (k := 3) rfl (ft_inc t) (by decide) rfl (fun ls hl => ?_)
          refine lv_goto (tgt := 23) hx hb dX11_lineLoss_39 (by decide) ?_
          exact ih23 (t + 1) (x23_2 + (ftFw w (nI t) (ftCN w))) (nI (t + 1))  (by omega) (by omega) (by rw [ex23_2]; rfl) (by first | rfl | assumption)  ls (lv_sub hl [2, 3, 1, 0] rfl)
    exact lp23 _ 0 0 0  (Nat.lt_succ_self _) (by omega) (by rfl) (by rfl) ls (lv_sub hl [2, 3, 1, 0] rfl)
  · replace c13 := ftB_eq c13
    refine lv_ldc (v := (-1000001)) hx hb hown (hts (.constant RX11 95 (-1000001)) (by decide +kernel)) dX11_lineLoss_16 ?_
    exact W.iret (v := (-1000001)) hx hb hr (fun t ht hW => ⟨(-1000001), rfl, (by show ((-1000001) : Int32) = ftLlA w xq0; exact (ftIte_f c13).symm), ht⟩) (fun _ h9 => absurd h9 List.not_mem_nil) dX11_lineLoss_18
set_option maxHeartbeats 4000000 in
set_option maxRecDepth 100000 in
theorem c_X11_sample (l : Launch) (D : va_G) (cI cS : ClassId) (sz : Nat) (m0 p0 p1 p3 p5 p10 p12 p13 p14 p16 p17 p19 p20 p21 p22 p25 p26 p27 p28 p29 p30 p31 p32 : Nat) (i2 i4 i6 i7 i8 i9 i11 i15 i18 i23 i24 : Int32) (w fb fp fn fa fh ga gh g1 g2 : Nat → Int32) (xq0 xq1 : Int32) (hwf : ftWf w) : Met l yX11_sample wsX11_sample ({ frames := 3, cells := 0, slots := 0, locals := 72 }) (ftRW D cI cS [.ref m0, .int xq0, .int xq1] [(m0, .inr (11, [.ref p0, .ref p1, .int i2, .ref p3, .int i4, .ref p5, .int i6, .int i7, .int i8, .int i9, .ref p10, .int i11, .ref p12, .ref p13, .ref p14, .int i15, .ref p16, .ref p17, .int i18, .ref p19, .ref p20, .ref p21, .ref p22, .int i23, .int i24, .ref p25, .ref p26, .ref p27, .ref p28, .ref p29, .ref p30, .ref p31, .ref p32])), (p0, .inl (cI, 1439, .inl w)), (p12, .inl (cI, 460, .inl fb)), (p13, .inl (cI, 460, .inl fp)), (p14, .inl (cI, 460, .inl fn)), (p16, .inl (cI, 11, .inl fa)), (p17, .inl (cI, 11, .inl fh)), (p19, .inl (cI, 55, .inl ga)), (p20, .inl (cI, 55, .inl gh)), (p21, .inl (cI, 55, .inl g1)), (p22, .inl (cI, 55, .inl g2))] sz) (ftXi D [(m0, .inr (11, [.ref p0, .ref p1, .int i2, .ref p3, .int i4, .ref p5, .int i6, .int i7, .int i8, .int i9, .ref p10, .int i11, .ref p12, .ref p13, .ref p14, .int i15, .ref p16, .ref p17, .int i18, .ref p19, .ref p20, .ref p21, .ref p22, .int i23, .int i24, .ref p25, .ref p26, .ref p27, .ref p28, .ref p29, .ref p30, .ref p31, .ref p32])), (p0, .inl (cI, 1439, .inl w)), (p12, .inl (cI, 460, .inl fb)), (p13, .inl (cI, 460, .inl fp)), (p14, .inl (cI, 460, .inl fn)), (p16, .inl (cI, 11, .inl fa)), (p17, .inl (cI, 11, .inl fh)), (p19, .inl (cI, 55, .inl ga)), (p20, .inl (cI, 55, .inl gh)), (p21, .inl (cI, 55, .inl g1)), (p22, .inl (cI, 55, .inl g2))] sz (fun (o9 : Int32) (u : (Nat → Int32) × (Nat → Nat → Int32)) => o9 = ftSmA w xq0 xq1 ∧ True) (fun (u : (Nat → Int32) × (Nat → Nat → Int32)) => [(m0, .inr (11, [.ref p0, .ref p1, .int i2, .ref p3, .int i4, .ref p5, .int i6, .int i7, .int i8, .int i9, .ref p10, .int i11, .ref p12, .ref p13, .ref p14, .int (u.1 15), .ref p16, .ref p17, .int (u.1 18), .ref p19, .ref p20, .ref p21, .ref p22, .int i23, .int i24, .ref p25, .ref p26, .ref p27, .ref p28, .ref p29, .ref p30, .ref p31, .ref p32])), (p0, .inl (cI, 1439, .inl w)), (p12, .inl (cI, 460, .inl (u.2 12))), (p13, .inl (cI, 460, .inl (u.2 13))), (p14, .inl (cI, 460, .inl (u.2 14))), (p16, .inl (cI, 11, .inl (u.2 16))), (p17, .inl (cI, 11, .inl (u.2 17))), (p19, .inl (cI, 55, .inl (u.2 19))), (p20, .inl (cI, 55, .inl (u.2 20))), (p21, .inl (cI, 55, .inl (u.2 21))), (p22, .inl (cI, 55, .inl (u.2 22)))])) 0 0 (va_A [(m0, .inr (11, [.ref p0, .ref p1, .int i2, .ref p3, .int i4, .ref p5, .int i6, .int i7, .int i8, .int i9, .ref p10, .int i11, .ref p12, .ref p13, .ref p14, .int i15, .ref p16, .ref p17, .int i18, .ref p19, .ref p20, .ref p21, .ref p22, .int i23, .int i24, .ref p25, .ref p26, .ref p27, .ref p28, .ref p29, .ref p30, .ref p31, .ref p32])), (p0, .inl (cI, 1439, .inl w)), (p12, .inl (cI, 460, .inl fb)), (p13, .inl (cI, 460, .inl fp)), (p14, .inl (cI, 460, .inl fn)), (p16, .inl (cI, 11, .inl fa)), (p17, .inl (cI, 11, .inl fh)), (p19, .inl (cI, 55, .inl ga)), (p20, .inl (cI, 55, .inl gh)), (p21, .inl (cI, 55, .inl g1)), (p22, .inl (cI, 55, .inl g2))] sz) := by
  refine Met.ofW (cc := cX11_sample) (maxL := 3) (ret := (some .int)) (by decide) rfl ?_
  intro p e s m args below meth c s₁ B hml hv
  obtain ⟨rfl, hsz, hP, hKK, hD0⟩ := hv
  have hK := hKK.1
  have hx := B.exec
  have hb := B.bytes
  have hr := B.returns
  have hts := atoms_spec (ws := wsX11_sample) B.pre
  have hown : s.vm.findClass RX11 = some m.cls := findClass_of_methodNamed B.named
  have hlocks := B.notSynchronized
  subst hsz
  have hD := hD0.self (sz := s.heap.size)
  generalize hAe : va_A [(m0, .inr (11, [.ref p0, .ref p1, .int i2, .ref p3, .int i4, .ref p5, .int i6, .int i7, .int i8, .int i9, .ref p10, .int i11, .ref p12, .ref p13, .ref p14, .int i15, .ref p16, .ref p17, .int i18, .ref p19, .ref p20, .ref p21, .ref p22, .int i23, .int i24, .ref p25, .ref p26, .ref p27, .ref p28, .ref p29, .ref p30, .ref p31, .ref p32])), (p0, .inl (cI, 1439, .inl w)), (p12, .inl (cI, 460, .inl fb)), (p13, .inl (cI, 460, .inl fp)), (p14, .inl (cI, 460, .inl fn)), (p16, .inl (cI, 11, .inl fa)), (p17, .inl (cI, 11, .inl fh)), (p19, .inl (cI, 55, .inl ga)), (p20, .inl (cI, 55, .inl gh)), (p21, .inl (cI, 55, .inl g1)), (p22, .inl (cI, 55, .inl g2))] s.heap.size = A at hD ⊢
  have hA : ∀ q : Nat, s.heap.size ≤ q → A q := fun q h => by rw [← hAe]; exact Or.inr h
  have hS : va_S A s.heap s.heap [] := va_S.rf
  have hD : va_D A [(m0, .inr (11, [.ref p0, .ref p1, .int i2, .ref p3, .int i4, .ref p5, .int i6, .int i7, .int i8, .int i9, .ref p10, .int i11, .ref p12, .ref p13, .ref p14, .int i15, .ref p16, .ref p17, .int i18, .ref p19, .ref p20, .ref p21, .ref p22, .int i23, .int i24, .ref p25, .ref p26, .ref p27, .ref p28, .ref p29, .ref p30, .ref p31, .ref p32])), (p0, .inl (cI, 1439, .inl w)), (p12, .inl (cI, 460, .inl fb)), (p13, .inl (cI, 460, .inl fp)), (p14, .inl (cI, 460, .inl fn)), (p16, .inl (cI, 11, .inl fa)), (p17, .inl (cI, 11, .inl fh)), (p19, .inl (cI, 55, .inl ga)), (p20, .inl (cI, 55, .inl gh)), (p21, .inl (cI, 55, .inl g1)), (p22, .inl (cI, 55, .inl g2))] := hD
  have hP : va_P D vwCl [(m0, .inr (11, [.ref p0, .ref p1, .int i2, .ref p3, .int i4, .ref p5, .int i6, .int i7, .int i8, .int i9, .ref p10, .int i11, .ref p12, .ref p13, .ref p14, .int i15, .ref p16, .ref p17, .int i18, .ref p19, .ref p20, .ref p21, .ref p22, .int i23, .int i24, .ref p25, .ref p26, .ref p27, .ref p28, .ref p29, .ref p30, .ref p31, .ref p32])), (p0, .inl (cI, 1439, .inl w)), (p12, .inl (cI, 460, .inl fb)), (p13, .inl (cI, 460, .inl fp)), (p14, .inl (cI, 460, .inl fn)), (p16, .inl (cI, 11, .inl fa)), (p17, .inl (cI, 11, .inl fh)), (p19, .inl (cI, 55, .inl ga)), (p20, .inl (cI, 55, .inl gh)), (p21, .inl (cI, 55, .inl g1)), (p22, .inl (cI, 55, .inl g2))] s.heap := hP
  have hl := lv_entry ([.ref m0, .int xq0, .int xq1]) (n := 3) (Nat.le_of_ble_eq_true rfl)
  rw [lg_entry_eq]
  generalize (lg_sl ([.ref m0, .int xq0, .int xq1]) ++ List.replicate (3 - (lg_sl ([.ref m0, .int xq0, .int xq1])).length) Slot.unset).toArray = ls at hl ⊢
  have hl : lv_has ls 3 [(0, .ref m0), (1, .int xq0), (2, .int xq1)] := hl
  have hw3 := ftWf_3 hwf
  have hn := ftWf_n hwf
  have hw0 := ftWf_0 hwf
  have hln := ftWf_ln hwf
  have hlg := ftWf_lg hwf
  refine lv_iload_n hx hb dX11_sample_0 rfl (lv_at hl 1 rfl) ?_
  refine lv_i2l (v := xq0.toInt64) hx hb dX11_sample_1 rfl ?_
  refine lv_lconst (v := 0) hx hb dX11_sample_2 (by decide) ?_
  refine lv_aload_n hx hb dX11_sample_3 rfl (lv_at hl 0 rfl) ?_
  refine ft_csi (r := nI ((ftCL w) + 60)) (va_runV (C := RX11) (As := []) (rest := [.long 0, .long xq0.toInt64]) ⟨hx, hb, hml, hown, hts⟩ (c_X11_samples l D cI cS m0 p0 p1 p3 p5 p10 p12 p13 p14 p16 p17 p19 p20 p21 p22 p25 p26 p27 p28 p29 p30 p31 p32 i2 i4 i6 i7 i8 i9 i11 i15 i18 i23 i24 w (ftCL w) hw0) (cwV 0 hts gX11_sample_X11_samples rfl rfl rfl (by decide +kernel) ⟨Nat.le_of_ble_eq_true rfl, Nat.le_of_ble_eq_true rfl⟩) (ft_preROV (ci := 11) (q0 := 0) hP hKK [0, 1] rfl rfl rfl) rfl rfl hl.1 rfl (lv_room (Nat.le_of_ble_eq_true rfl)) dX11_sample_4 ⟨Nat.le_of_ble_eq_true rfl, Nat.le_of_ble_eq_true rfl⟩) ?_
  refine lv_iconst (v := 1) hx hb dX11_sample_7 (by decide) ?_
  refine lv_isub hx hb dX11_sample_8 ?_
  refine ft_top (y := nI (((ftCL w) + 60) - 1)) (ft_subN (a := (ftCL w) + 60) (b := 1) (by omega)) ?_
  refine lv_i2l (v := (nI (((ftCL w) + 60) - 1)).toInt64) hx hb dX11_sample_9 rfl ?_
  refine ft_csi (r := ftB (0 ≤ xq0.toInt64 ∧ xq0.toInt64 ≤ ((nI (((ftCL w) + 60) - 1)).toInt64))) (va_runS (As := [.long xq0.toInt64, .long 0, .long ((nI (((ftCL w) + 60) - 1)).toInt64)]) (rest := []) ⟨hx, hb, hml, hown, hts⟩ (c_X11_in l D cI cS xq0.toInt64 0 ((nI (((ftCL w) + 60) - 1)).toInt64)) (va_cwS 3 hts gX11_sample_X11_in rfl rfl rfl (by decide +kernel) ⟨Nat.le_of_ble_eq_true rfl, Nat.le_of_ble_eq_true rfl⟩) (ft_preRO hP hKK [] rfl) rfl rfl hl.1 rfl (lv_room (Nat.le_of_ble_eq_true rfl)) dX11_sample_10 ⟨Nat.le_of_ble_eq_true rfl, Nat.le_of_ble_eq_true rfl⟩) ?_
  refine ft_top (y := ftB (0 ≤ xq0 ∧ xq0 ≤ (nI (((ftCL w) + 60) - 1)))) (ft_in64 (by decide) (Int32.toInt_toInt64 _)) ?_
  refine lv_if_eq (tgt := 28) hx hb dX11_sample_13 (by decide) (fun c13 => ?_) (fun c13 => ?_)
  · replace c13 := ftB_eq c13
    refine lv_ldc (v := (-1000001)) hx hb hown (hts (.constant RX11 95 (-1000001)) (by decide +kernel)) dX11_sample_28 ?_
    obtain ⟨u9, hu9⟩ : ∃ u9 : (Nat → Int32) × (Nat → Nat → Int32), u9 = ((fun k => match k with | 15 => i15 | _ => i18), (fun k => match k with | 12 => fb | 13 => fp | 14 => fn | 16 => fa | 17 => fh | 19 => ga | 20 => gh | 21 => g1 | _ => g2)) := ⟨_, rfl⟩
    have hw9 : ([(m0, .inr (11, [.ref p0, .ref p1, .int i2, .ref p3, .int i4, .ref p5, .int i6, .int i7, .int i8, .int i9, .ref p10, .int i11, .ref p12, .ref p13, .ref p14, .int i15, .ref p16, .ref p17, .int i18, .ref p19, .ref p20, .ref p21, .ref p22, .int i23, .int i24, .ref p25, .ref p26, .ref p27, .ref p28, .ref p29, .ref p30, .ref p31, .ref p32])), (p0, .inl (cI, 1439, .inl w)), (p12, .inl (cI, 460, .inl fb)), (p13, .inl (cI, 460, .inl fp)), (p14, .inl (cI, 460, .inl fn)), (p16, .inl (cI, 11, .inl fa)), (p17, .inl (cI, 11, .inl fh)), (p19, .inl (cI, 55, .inl ga)), (p20, .inl (cI, 55, .inl gh)), (p21, .inl (cI, 55, .inl g1)), (p22, .inl (cI, 55, .inl g2))] : va_W) = [(m0, .inr (11, [.ref p0, .ref p1, .int i2, .ref p3, .int i4, .ref p5, .int i6, .int i7, .int i8, .int i9, .ref p10, .int i11, .ref p12, .ref p13, .ref p14, .int (u9.1 15), .ref p16, .ref p17, .int (u9.1 18), .ref p19, .ref p20, .ref p21, .ref p22, .int i23, .int i24, .ref p25, .ref p26, .ref p27, .ref p28, .ref p29, .ref p30, .ref p31, .ref p32])), (p0, .inl (cI, 1439, .inl w)), (p12, .inl (cI, 460, .inl (u9.2 12))), (p13, .inl (cI, 460, .inl (u9.2 13))), (p14, .inl (cI, 460, .inl (u9.2 14))), (p16, .inl (cI, 11, .inl (u9.2 16))), (p17, .inl (cI, 11, .inl (u9.2 17))), (p19, .inl (cI, 55, .inl (u9.2 19))), (p20, .inl (cI, 55, .inl (u9.2 20))), (p21, .inl (cI, 55, .inl (u9.2 21))), (p22, .inl (cI, 55, .inl (u9.2 22)))] := by subst hu9; rfl
    rw [hw9] at hP hD
    have hr9 : ((-1000001) : Int32) = ftSmA w xq0 xq1 := by first | exact (ftIte_f (fun q => c13 q.1)).symm | exact (ftIte_f (fun q => c25 q.2)).symm
    exact W.iret (v := (-1000001)) hx hb hr (fun t ht hW => ⟨⟨(-1000001), u9, rfl, ⟨hr9, trivial⟩, by rw [ht]; exact hP, by rw [hAe]; exact hD⟩, by rw [hAe]; exact hS.F ht⟩) hS.2.2 dX11_sample_30
  · replace c13 := ftB_ne c13
    refine lv_iload_n hx hb dX11_sample_16 rfl (lv_at hl 2 rfl) ?_
    refine lv_i2l (v := xq1.toInt64) hx hb dX11_sample_17 rfl ?_
    refine lv_lconst (v := 0) hx hb dX11_sample_18 (by decide) ?_
    refine lv_ldc2 (v := 3) hx hb hown (hts (.constantLong RX11 227 3) (by decide +kernel)) dX11_sample_19 ?_
    refine ft_csi (r := ftB (0 ≤ xq1.toInt64 ∧ xq1.toInt64 ≤ 3)) (va_runS (As := [.long xq1.toInt64, .long 0, .long 3]) (rest := []) ⟨hx, hb, hml, hown, hts⟩ (c_X11_in l D cI cS xq1.toInt64 0 3) (va_cwS 3 hts gX11_sample_X11_in rfl rfl rfl (by decide +kernel) ⟨Nat.le_of_ble_eq_true rfl, Nat.le_of_ble_eq_true rfl⟩) (ft_preRO hP hKK [] rfl) rfl rfl hl.1 rfl (lv_room (Nat.le_of_ble_eq_true rfl)) dX11_sample_22 ⟨Nat.le_of_ble_eq_true rfl, Nat.le_of_ble_eq_true rfl⟩) ?_
    refine ft_top (y := ftB (0 ≤ xq1 ∧ xq1 ≤ 3)) (ft_in64 (by decide) (by decide)) ?_
    refine lv_if_ne (tgt := 31) hx hb dX11_sample_25 (by decide) (fun c25 => ?_) (fun c25 => ?_)
    · replace c25 := ftB_ne c25
      obtain ⟨hk9, hxk⟩ := ft_btw2 (K := ftCL w + 60 - 1) (by omega) c13.1 c13.2
      generalize hk8 : xq0.toNatClampNeg = k9 at hk9 hxk
      rw [hxk] at hl
      refine lv_aload_n hx hb dX11_sample_31 rfl (lv_at hl 0 rfl) ?_
      refine ft_cxv (S := Nat → Nat → Int32) (wc := [(m0, .inr (11, [.ref p0, .ref p1, .int i2, .ref p3, .int i4, .ref p5, .int i6, .int i7, .int i8, .int i9, .ref p10, .int i11, .ref p12, .ref p13, .ref p14, .int i15, .ref p16, .ref p17, .int i18, .ref p19, .ref p20, .ref p21, .ref p22, .int i23, .int i24, .ref p25, .ref p26, .ref p27, .ref p28, .ref p29, .ref p30, .ref p31, .ref p32])), (p0, .inl (cI, 1439, .inl w)), (p12, .inl (cI, 460, .inl fb)), (p13, .inl (cI, 460, .inl fp)), (p14, .inl (cI, 460, .inl fn)), (p16, .inl (cI, 11, .inl fa)), (p17, .inl (cI, 11, .inl fh)), (p19, .inl (cI, 55, .inl ga)), (p20, .inl (cI, 55, .inl gh)), (p21, .inl (cI, 55, .inl g1)), (p22, .inl (cI, 55, .inl g2))]) (wr := []) (w1 := (fun (u32 : Nat → Nat → Int32) => [(m0, .inr (11, [.ref p0, .ref p1, .int i2, .ref p3, .int i4, .ref p5, .int i6, .int i7, .int i8, .int i9, .ref p10, .int i11, .ref p12, .ref p13, .ref p14, .int (nI (ftCF w).1), .ref p16, .ref p17, .int (nI (ftCG w).1), .ref p19, .ref p20, .ref p21, .ref p22, .int i23, .int i24, .ref p25, .ref p26, .ref p27, .ref p28, .ref p29, .ref p30, .ref p31, .ref p32])), (p0, .inl (cI, 1439, .inl w)), (p12, .inl (cI, 460, .inl (u32 12))), (p13, .inl (cI, 460, .inl (u32 13))), (p14, .inl (cI, 460, .inl (u32 14))), (p16, .inl (cI, 11, .inl (u32 16))), (p17, .inl (cI, 11, .inl (u32 17))), (p19, .inl (cI, 55, .inl (u32 19))), (p20, .inl (cI, 55, .inl (u32 20))), (p21, .inl (cI, 55, .inl (u32 21))), (p22, .inl (cI, 55, .inl (u32 22)))])) (ws1 := (fun (u32 : Nat → Nat → Int32) => [(m0, .inr (11, [.ref p0, .ref p1, .int i2, .ref p3, .int i4, .ref p5, .int i6, .int i7, .int i8, .int i9, .ref p10, .int i11, .ref p12, .ref p13, .ref p14, .int (nI (ftCF w).1), .ref p16, .ref p17, .int (nI (ftCG w).1), .ref p19, .ref p20, .ref p21, .ref p22, .int i23, .int i24, .ref p25, .ref p26, .ref p27, .ref p28, .ref p29, .ref p30, .ref p31, .ref p32])), (p0, .inl (cI, 1439, .inl w)), (p12, .inl (cI, 460, .inl (u32 12))), (p13, .inl (cI, 460, .inl (u32 13))), (p14, .inl (cI, 460, .inl (u32 14))), (p16, .inl (cI, 11, .inl (u32 16))), (p17, .inl (cI, 11, .inl (u32 17))), (p19, .inl (cI, 55, .inl (u32 19))), (p20, .inl (cI, 55, .inl (u32 20))), (p21, .inl (cI, 55, .inl (u32 21))), (p22, .inl (cI, 55, .inl (u32 22)))])) (va_runV (C := RX11) (As := []) (rest := []) ⟨hx, hb, hml, hown, hts⟩ (c_X11_layTracex l D cI cS s.heap.size m0 p0 p1 p3 p5 p10 p12 p13 p14 p16 p17 p19 p20 p21 p22 p25 p26 p27 p28 p29 p30 p31 p32 i2 i4 i6 i7 i8 i9 i11 i15 i18 i23 i24 w fb fp fn fa fh ga gh g1 g2 (by first | assumption | omega)) (cwV 0 hts gX11_sample_X11_layTrace rfl rfl rfl (by decide +kernel) ⟨Nat.le_of_ble_eq_true rfl, Nat.le_of_ble_eq_true rfl⟩) (ft_preRWV (ci := 11) (q0 := 0) hP hD hKK [0, 1, 2, 3, 4, 5, 6, 7, 8, 9, 10] rfl rfl rfl rfl rfl) rfl rfl hl.1 rfl (lv_room (Nat.le_of_ble_eq_true rfl)) dX11_sample_32 ⟨Nat.le_of_ble_eq_true rfl, Nat.le_of_ble_eq_true rfl⟩) hP hD hS hA [0, 1, 2, 3, 4, 5, 6, 7, 8, 9, 10] [] [0, 1, 2, 3, 4, 5, 6, 7, 8, 9, 10] rfl rfl (by decide) (by decide) (by decide) (fun _ => rfl) (fun _ => rfl) (fun u32 hu32 H locs hP hD hS => ?_)
      obtain ⟨hb32, hg32⟩ := hu32
      have hP : va_P D vwCl [(m0, .inr (11, [.ref p0, .ref p1, .int i2, .ref p3, .int i4, .ref p5, .int i6, .int i7, .int i8, .int i9, .ref p10, .int i11, .ref p12, .ref p13, .ref p14, .int (nI (ftCF w).1), .ref p16, .ref p17, .int (nI (ftCG w).1), .ref p19, .ref p20, .ref p21, .ref p22, .int i23, .int i24, .ref p25, .ref p26, .ref p27, .ref p28, .ref p29, .ref p30, .ref p31, .ref p32])), (p0, .inl (cI, 1439, .inl w)), (p12, .inl (cI, 460, .inl (u32 12))), (p13, .inl (cI, 460, .inl (u32 13))), (p14, .inl (cI, 460, .inl (u32 14))), (p16, .inl (cI, 11, .inl (u32 16))), (p17, .inl (cI, 11, .inl (u32 17))), (p19, .inl (cI, 55, .inl (u32 19))), (p20, .inl (cI, 55, .inl (u32 20))), (p21, .inl (cI, 55, .inl (u32 21))), (p22, .inl (cI, 55, .inl (u32 22)))] H := hP
      have hD : va_D A [(m0, .inr (11, [.ref p0, .ref p1, .int i2, .ref p3, .int i4, .ref p5, .int i6, .int i7, .int i8, .int i9, .ref p10, .int i11, .ref p12, .ref p13, .ref p14, .int (nI (ftCF w).1), .ref p16, .ref p17, .int (nI (ftCG w).1), .ref p19, .ref p20, .ref p21, .ref p22, .int i23, .int i24, .ref p25, .ref p26, .ref p27, .ref p28, .ref p29, .ref p30, .ref p31, .ref p32])), (p0, .inl (cI, 1439, .inl w)), (p12, .inl (cI, 460, .inl (u32 12))), (p13, .inl (cI, 460, .inl (u32 13))), (p14, .inl (cI, 460, .inl (u32 14))), (p16, .inl (cI, 11, .inl (u32 16))), (p17, .inl (cI, 11, .inl (u32 17))), (p19, .inl (cI, 55, .inl (u32 19))), (p20, .inl (cI, 55, .inl (u32 20))), (p21, .inl (cI, 55, .inl (u32 21))), (p22, .inl (cI, 55, .inl (u32 22)))] := hD
      obtain ⟨hb1, hb2, hb3⟩ := hb32 k9 (by omega)
      refine lv_iload_n hx hb dX11_sample_35 rfl (lv_at hl 2 rfl) ?_
      refine lv_if_ne (tgt := 47) hx hb dX11_sample_36 (by decide) (fun c36 => ?_) (fun c36 => ?_)
      · refine lv_iload_n hx hb dX11_sample_47 rfl (lv_at hl 2 rfl) ?_
        refine lv_iconst (v := 1) hx hb dX11_sample_48 (by decide) ?_
        refine lv_icmp_ne (tgt := 61) hx hb dX11_sample_49 (by decide) (fun c49 => ?_) (fun c49 => ?_)
        · refine lv_iload_n hx hb dX11_sample_61 rfl (lv_at hl 2 rfl) ?_
          refine lv_iconst (v := 2) hx hb dX11_sample_62 (by decide) ?_
          refine lv_icmp_ne (tgt := 75) hx hb dX11_sample_63 (by decide) (fun c63 => ?_) (fun c63 => ?_)
          · refine lv_aload_n hx hb dX11_sample_75 rfl (lv_at hl 0 rfl) ?_
            refine va_get (D := D) (ci := 11) (v := .ref p14) (C := RX11) (T := TX11) (N := 33) hx hb hts (by decide +kernel) hown hK hP 0 rfl rfl 14 (by decide) (hts (.fieldLink RX11 31 "FiberTraceModel" "noise" "[I") (by decide +kernel)) (fun _ h9 => h9) rfl dX11_sample_76 ?_
            refine lv_iload_n hx hb dX11_sample_79 rfl (lv_at hl 1 rfl) ?_
            refine va_iald hx hb hK hP 4 0 rfl rfl (vp_in_nI (by omega) (by omega)) dX11_sample_80 ?_
            refine ft_top (y := (u32 14) k9) (ft_clampN (by omega)) ?_
            obtain ⟨u9, hu9⟩ : ∃ u9 : (Nat → Int32) × (Nat → Nat → Int32), u9 = ((fun k => match k with | 15 => (nI (ftCF w).1) | _ => (nI (ftCG w).1)), (fun k => match k with | 12 => (u32 12) | 13 => (u32 13) | 14 => (u32 14) | 16 => (u32 16) | 17 => (u32 17) | 19 => (u32 19) | 20 => (u32 20) | 21 => (u32 21) | _ => (u32 22))) := ⟨_, rfl⟩
            have hw9 : ([(m0, .inr (11, [.ref p0, .ref p1, .int i2, .ref p3, .int i4, .ref p5, .int i6, .int i7, .int i8, .int i9, .ref p10, .int i11, .ref p12, .ref p13, .ref p14, .int (nI (ftCF w).1), .ref p16, .ref p17, .int (nI (ftCG w).1), .ref p19, .ref p20, .ref p21, .ref p22, .int i23, .int i24, .ref p25, .ref p26, .ref p27, .ref p28, .ref p29, .ref p30, .ref p31, .ref p32])), (p0, .inl (cI, 1439, .inl w)), (p12, .inl (cI, 460, .inl (u32 12))), (p13, .inl (cI, 460, .inl (u32 13))), (p14, .inl (cI, 460, .inl (u32 14))), (p16, .inl (cI, 11, .inl (u32 16))), (p17, .inl (cI, 11, .inl (u32 17))), (p19, .inl (cI, 55, .inl (u32 19))), (p20, .inl (cI, 55, .inl (u32 20))), (p21, .inl (cI, 55, .inl (u32 21))), (p22, .inl (cI, 55, .inl (u32 22)))] : va_W) = [(m0, .inr (11, [.ref p0, .ref p1, .int i2, .ref p3, .int i4, .ref p5, .int i6, .int i7, .int i8, .int i9, .ref p10, .int i11, .ref p12, .ref p13, .ref p14, .int (u9.1 15), .ref p16, .ref p17, .int (u9.1 18), .ref p19, .ref p20, .ref p21, .ref p22, .int i23, .int i24, .ref p25, .ref p26, .ref p27, .ref p28, .ref p29, .ref p30, .ref p31, .ref p32])), (p0, .inl (cI, 1439, .inl w)), (p12, .inl (cI, 460, .inl (u9.2 12))), (p13, .inl (cI, 460, .inl (u9.2 13))), (p14, .inl (cI, 460, .inl (u9.2 14))), (p16, .inl (cI, 11, .inl (u9.2 16))), (p17, .inl (cI, 11, .inl (u9.2 17))), (p19, .inl (cI, 55, .inl (u9.2 19))), (p20, .inl (cI, 55, .inl (u9.2 20))), (p21, .inl (cI, 55, .inl (u9.2 21))), (p22, .inl (cI, 55, .inl (u9.2 22)))] := by subst hu9; rfl
            rw [hw9] at hP hD
            have hr9 : ((u32 14) k9 : Int32) = ftSmA w xq0 xq1 := by rw [hxk, ftSmA, ftIte_t ⟨⟨ft_nI0 _ (by omega), nI_le hk9 (by omega)⟩, c25⟩, nI_clamp (by omega)]; rw [ftSmK]; first | (rw [if_pos c36, hb1, hb2, hb3]; rfl) | (rw [if_neg c36, if_pos c49]; exact hb1) | (rw [if_neg c36, if_neg c49, if_pos c63]; exact hb2) | (rw [if_neg c36, if_neg c49, if_neg c63]; exact hb3)
            exact W.iret (v := (u32 14) k9) hx hb hr (fun t ht hW => ⟨⟨(u32 14) k9, u9, rfl, ⟨hr9, trivial⟩, by rw [ht]; exact hP, by rw [hAe]; exact hD⟩, by rw [hAe]; exact hS.F ht⟩) hS.2.2 dX11_sample_81
          · refine lv_aload_n hx hb dX11_sample_66 rfl (lv_at hl 0 rfl) ?_
            refine va_get (D := D) (ci := 11) (v := .ref p13) (C := RX11) (T := TX11) (N := 33) hx hb hts (by decide +kernel) hown hK hP 0 rfl rfl 13 (by decide) (hts (.fieldLink RX11 28 "FiberTraceModel" "peak" "[I") (by decide +kernel)) (fun _ h9 => h9) rfl dX11_sample_67 ?_
            refine lv_iload_n hx hb dX11_sample_70 rfl (lv_at hl 1 rfl) ?_
            refine va_iald hx hb hK hP 3 0 rfl rfl (vp_in_nI (by omega) (by omega)) dX11_sample_71 ?_
            refine ft_top (y := (u32 13) k9) (ft_clampN (by omega)) ?_
            refine lv_goto (tgt := 81) hx hb dX11_sample_72 (by decide) ?_
            obtain ⟨u9, hu9⟩ : ∃ u9 : (Nat → Int32) × (Nat → Nat → Int32), u9 = ((fun k => match k with | 15 => (nI (ftCF w).1) | _ => (nI (ftCG w).1)), (fun k => match k with | 12 => (u32 12) | 13 => (u32 13) | 14 => (u32 14) | 16 => (u32 16) | 17 => (u32 17) | 19 => (u32 19) | 20 => (u32 20) | 21 => (u32 21) | _ => (u32 22))) := ⟨_, rfl⟩
            have hw9 : ([(m0, .inr (11, [.ref p0, .ref p1, .int i2, .ref p3, .int i4, .ref p5, .int i6, .int i7, .int i8, .int i9, .ref p10, .int i11, .ref p12, .ref p13, .ref p14, .int (nI (ftCF w).1), .ref p16, .ref p17, .int (nI (ftCG w).1), .ref p19, .ref p20, .ref p21, .ref p22, .int i23, .int i24, .ref p25, .ref p26, .ref p27, .ref p28, .ref p29, .ref p30, .ref p31, .ref p32])), (p0, .inl (cI, 1439, .inl w)), (p12, .inl (cI, 460, .inl (u32 12))), (p13, .inl (cI, 460, .inl (u32 13))), (p14, .inl (cI, 460, .inl (u32 14))), (p16, .inl (cI, 11, .inl (u32 16))), (p17, .inl (cI, 11, .inl (u32 17))), (p19, .inl (cI, 55, .inl (u32 19))), (p20, .inl (cI, 55, .inl (u32 20))), (p21, .inl (cI, 55, .inl (u32 21))), (p22, .inl (cI, 55, .inl (u32 22)))] : va_W) = [(m0, .inr (11, [.ref p0, .ref p1, .int i2, .ref p3, .int i4, .ref p5, .int i6, .int i7, .int i8, .int i9, .ref p10, .int i11, .ref p12, .ref p13, .ref p14, .int (u9.1 15), .ref p16, .ref p17, .int (u9.1 18), .ref p19, .ref p20, .ref p21, .ref p22, .int i23, .int i24, .ref p25, .ref p26, .ref p27, .ref p28, .ref p29, .ref p30, .ref p31, .ref p32])), (p0, .inl (cI, 1439, .inl w)), (p12, .inl (cI, 460, .inl (u9.2 12))), (p13, .inl (cI, 460, .inl (u9.2 13))), (p14, .inl (cI, 460, .inl (u9.2 14))), (p16, .inl (cI, 11, .inl (u9.2 16))), (p17, .inl (cI, 11, .inl (u9.2 17))), (p19, .inl (cI, 55, .inl (u9.2 19))), (p20, .inl (cI, 55, .inl (u9.2 20))), (p21, .inl (cI, 55, .inl (u9.2 21))), (p22, .inl (cI, 55, .inl (u9.2 22)))] := by subst hu9; rfl
            rw [hw9] at hP hD
            have hr9 : ((u32 13) k9 : Int32) = ftSmA w xq0 xq1 := by rw [hxk, ftSmA, ftIte_t ⟨⟨ft_nI0 _ (by omega), nI_le hk9 (by omega)⟩, c25⟩, nI_clamp (by omega)]; rw [ftSmK]; first | (rw [if_pos c36, hb1, hb2, hb3]; rfl) | (rw [if_neg c36, if_pos c49]; exact hb1) | (rw [if_neg c36, if_neg c49, if_pos c63]; exact hb2) | (rw [if_neg c36, if_neg c49, if_neg c63]; exact hb3)
            exact W.iret (v := (u32 13) k9) hx hb hr (fun t ht hW => ⟨⟨(u32 13) k9, u9, rfl, ⟨hr9, trivial⟩, by rw [ht]; exact hP, by rw [hAe]; exact hD⟩, by rw [hAe]; exact hS.F ht⟩) hS.2.2 dX11_sample_81
        · refine lv_aload_n hx hb dX11_sample_52 rfl (lv_at hl 0 rfl) ?_
          refine va_get (D := D) (ci := 11) (v := .ref p12) (C := RX11) (T := TX11) (N := 33) hx hb hts (by decide +kernel) hown hK hP 0 rfl rfl 12 (by decide) (hts (.fieldLink RX11 25 "FiberTraceModel" "base" "[I") (by decide +kernel)) (fun _ h9 => h9) rfl dX11_sample_53 ?_
          refine lv_iload_n hx hb dX11_sample_56 rfl (lv_at hl 1 rfl) ?_
          refine va_iald hx hb hK hP 2 0 rfl rfl (vp_in_nI (by omega) (by omega)) dX11_sample_57 ?_
          refine ft_top (y := (u32 12) k9) (ft_clampN (by omega)) ?_
          refine lv_goto (tgt := 81) hx hb dX11_sample_58 (by decide) ?_
          obtain ⟨u9, hu9⟩ : ∃ u9 : (Nat → Int32) × (Nat → Nat → Int32), u9 = ((fun k => match k with | 15 => (nI (ftCF w).1) | _ => (nI (ftCG w).1)), (fun k => match k with | 12 => (u32 12) | 13 => (u32 13) | 14 => (u32 14) | 16 => (u32 16) | 17 => (u32 17) | 19 => (u32 19) | 20 => (u32 20) | 21 => (u32 21) | _ => (u32 22))) := ⟨_, rfl⟩
          have hw9 : ([(m0, .inr (11, [.ref p0, .ref p1, .int i2, .ref p3, .int i4, .ref p5, .int i6, .int i7, .int i8, .int i9, .ref p10, .int i11, .ref p12, .ref p13, .ref p14, .int (nI (ftCF w).1), .ref p16, .ref p17, .int (nI (ftCG w).1), .ref p19, .ref p20, .ref p21, .ref p22, .int i23, .int i24, .ref p25, .ref p26, .ref p27, .ref p28, .ref p29, .ref p30, .ref p31, .ref p32])), (p0, .inl (cI, 1439, .inl w)), (p12, .inl (cI, 460, .inl (u32 12))), (p13, .inl (cI, 460, .inl (u32 13))), (p14, .inl (cI, 460, .inl (u32 14))), (p16, .inl (cI, 11, .inl (u32 16))), (p17, .inl (cI, 11, .inl (u32 17))), (p19, .inl (cI, 55, .inl (u32 19))), (p20, .inl (cI, 55, .inl (u32 20))), (p21, .inl (cI, 55, .inl (u32 21))), (p22, .inl (cI, 55, .inl (u32 22)))] : va_W) = [(m0, .inr (11, [.ref p0, .ref p1, .int i2, .ref p3, .int i4, .ref p5, .int i6, .int i7, .int i8, .int i9, .ref p10, .int i11, .ref p12, .ref p13, .ref p14, .int (u9.1 15), .ref p16, .ref p17, .int (u9.1 18), .ref p19, .ref p20, .ref p21, .ref p22, .int i23, .int i24, .ref p25, .ref p26, .ref p27, .ref p28, .ref p29, .ref p30, .ref p31, .ref p32])), (p0, .inl (cI, 1439, .inl w)), (p12, .inl (cI, 460, .inl (u9.2 12))), (p13, .inl (cI, 460, .inl (u9.2 13))), (p14, .inl (cI, 460, .inl (u9.2 14))), (p16, .inl (cI, 11, .inl (u9.2 16))), (p17, .inl (cI, 11, .inl (u9.2 17))), (p19, .inl (cI, 55, .inl (u9.2 19))), (p20, .inl (cI, 55, .inl (u9.2 20))), (p21, .inl (cI, 55, .inl (u9.2 21))), (p22, .inl (cI, 55, .inl (u9.2 22)))] := by subst hu9; rfl
          rw [hw9] at hP hD
          have hr9 : ((u32 12) k9 : Int32) = ftSmA w xq0 xq1 := by rw [hxk, ftSmA, ftIte_t ⟨⟨ft_nI0 _ (by omega), nI_le hk9 (by omega)⟩, c25⟩, nI_clamp (by omega)]; rw [ftSmK]; first | (rw [if_pos c36, hb1, hb2, hb3]; rfl) | (rw [if_neg c36, if_pos c49]; exact hb1) | (rw [if_neg c36, if_neg c49, if_pos c63]; exact hb2) | (rw [if_neg c36, if_neg c49, if_neg c63]; exact hb3)
          exact W.iret (v := (u32 12) k9) hx hb hr (fun t ht hW => ⟨⟨(u32 12) k9, u9, rfl, ⟨hr9, trivial⟩, by rw [ht]; exact hP, by rw [hAe]; exact hD⟩, by rw [hAe]; exact hS.F ht⟩) hS.2.2 dX11_sample_81
      · refine lv_aload_n hx hb dX11_sample_39 rfl (lv_at hl 0 rfl) ?_
        refine lv_iload_n hx hb dX11_sample_40 rfl (lv_at hl 1 rfl) ?_
        refine ft_csi (r := (u32 12) k9 + (u32 13) k9 + (u32 14) k9) (va_runV (C := RX11) (As := [.int (nI k9)]) (rest := []) ⟨hx, hb, hml, hown, hts⟩ (c_X11_v l D cI cS m0 p0 p1 p3 p5 p10 p12 p13 p14 p16 p17 p19 p20 p21 p22 p25 p26 p27 p28 p29 p30 p31 p32 i2 i4 i6 i7 i8 i9 i11 (nI (ftCF w).1) (nI (ftCG w).1) i23 i24 (u32 12) (u32 13) (u32 14) k9 (by first | assumption | omega)) (cwV 1 hts gX11_sample_X11_v rfl rfl rfl (by decide +kernel) ⟨Nat.le_of_ble_eq_true rfl, Nat.le_of_ble_eq_true rfl⟩) (ft_preROV (ci := 11) (q0 := 0) hP hKK [0, 2, 3, 4] rfl rfl rfl) rfl rfl hl.1 rfl (lv_room (Nat.le_of_ble_eq_true rfl)) dX11_sample_41 ⟨Nat.le_of_ble_eq_true rfl, Nat.le_of_ble_eq_true rfl⟩) ?_
        refine lv_goto (tgt := 81) hx hb dX11_sample_44 (by decide) ?_
        obtain ⟨u9, hu9⟩ : ∃ u9 : (Nat → Int32) × (Nat → Nat → Int32), u9 = ((fun k => match k with | 15 => (nI (ftCF w).1) | _ => (nI (ftCG w).1)), (fun k => match k with | 12 => (u32 12) | 13 => (u32 13) | 14 => (u32 14) | 16 => (u32 16) | 17 => (u32 17) | 19 => (u32 19) | 20 => (u32 20) | 21 => (u32 21) | _ => (u32 22))) := ⟨_, rfl⟩
        have hw9 : ([(m0, .inr (11, [.ref p0, .ref p1, .int i2, .ref p3, .int i4, .ref p5, .int i6, .int i7, .int i8, .int i9, .ref p10, .int i11, .ref p12, .ref p13, .ref p14, .int (nI (ftCF w).1), .ref p16, .ref p17, .int (nI (ftCG w).1), .ref p19, .ref p20, .ref p21, .ref p22, .int i23, .int i24, .ref p25, .ref p26, .ref p27, .ref p28, .ref p29, .ref p30, .ref p31, .ref p32])), (p0, .inl (cI, 1439, .inl w)), (p12, .inl (cI, 460, .inl (u32 12))), (p13, .inl (cI, 460, .inl (u32 13))), (p14, .inl (cI, 460, .inl (u32 14))), (p16, .inl (cI, 11, .inl (u32 16))), (p17, .inl (cI, 11, .inl (u32 17))), (p19, .inl (cI, 55, .inl (u32 19))), (p20, .inl (cI, 55, .inl (u32 20))), (p21, .inl (cI, 55, .inl (u32 21))), (p22, .inl (cI, 55, .inl (u32 22)))] : va_W) = [(m0, .inr (11, [.ref p0, .ref p1, .int i2, .ref p3, .int i4, .ref p5, .int i6, .int i7, .int i8, .int i9, .ref p10, .int i11, .ref p12, .ref p13, .ref p14, .int (u9.1 15), .ref p16, .ref p17, .int (u9.1 18), .ref p19, .ref p20, .ref p21, .ref p22, .int i23, .int i24, .ref p25, .ref p26, .ref p27, .ref p28, .ref p29, .ref p30, .ref p31, .ref p32])), (p0, .inl (cI, 1439, .inl w)), (p12, .inl (cI, 460, .inl (u9.2 12))), (p13, .inl (cI, 460, .inl (u9.2 13))), (p14, .inl (cI, 460, .inl (u9.2 14))), (p16, .inl (cI, 11, .inl (u9.2 16))), (p17, .inl (cI, 11, .inl (u9.2 17))), (p19, .inl (cI, 55, .inl (u9.2 19))), (p20, .inl (cI, 55, .inl (u9.2 20))), (p21, .inl (cI, 55, .inl (u9.2 21))), (p22, .inl (cI, 55, .inl (u9.2 22)))] := by subst hu9; rfl
        rw [hw9] at hP hD
        have hr9 : ((u32 12) k9 + (u32 13) k9 + (u32 14) k9 : Int32) = ftSmA w xq0 xq1 := by rw [hxk, ftSmA, ftIte_t ⟨⟨ft_nI0 _ (by omega), nI_le hk9 (by omega)⟩, c25⟩, nI_clamp (by omega)]; rw [ftSmK]; first | (rw [if_pos c36, hb1, hb2, hb3]; rfl) | (rw [if_neg c36, if_pos c49]; exact hb1) | (rw [if_neg c36, if_neg c49, if_pos c63]; exact hb2) | (rw [if_neg c36, if_neg c49, if_neg c63]; exact hb3)
        exact W.iret (v := (u32 12) k9 + (u32 13) k9 + (u32 14) k9) hx hb hr (fun t ht hW => ⟨⟨(u32 12) k9 + (u32 13) k9 + (u32 14) k9, u9, rfl, ⟨hr9, trivial⟩, by rw [ht]; exact hP, by rw [hAe]; exact hD⟩, by rw [hAe]; exact hS.F ht⟩) hS.2.2 dX11_sample_81
    · replace c25 := ftB_eq c25
      refine lv_ldc (v := (-1000001)) hx hb hown (hts (.constant RX11 95 (-1000001)) (by decide +kernel)) dX11_sample_28 ?_
      obtain ⟨u9, hu9⟩ : ∃ u9 : (Nat → Int32) × (Nat → Nat → Int32), u9 = ((fun k => match k with | 15 => i15 | _ => i18), (fun k => match k with | 12 => fb | 13 => fp | 14 => fn | 16 => fa | 17 => fh | 19 => ga | 20 => gh | 21 => g1 | _ => g2)) := ⟨_, rfl⟩
      have hw9 : ([(m0, .inr (11, [.ref p0, .ref p1, .int i2, .ref p3, .int i4, .ref p5, .int i6, .int i7, .int i8, .int i9, .ref p10, .int i11, .ref p12, .ref p13, .ref p14, .int i15, .ref p16, .ref p17, .int i18, .ref p19, .ref p20, .ref p21, .ref p22, .int i23, .int i24, .ref p25, .ref p26, .ref p27, .ref p28, .ref p29, .ref p30, .ref p31, .ref p32])), (p0, .inl (cI, 1439, .inl w)), (p12, .inl (cI, 460, .inl fb)), (p13, .inl (cI, 460, .inl fp)), (p14, .inl (cI, 460, .inl fn)), (p16, .inl (cI, 11, .inl fa)), (p17, .inl (cI, 11, .inl fh)), (p19, .inl (cI, 55, .inl ga)), (p20, .inl (cI, 55, .inl gh)), (p21, .inl (cI, 55, .inl g1)), (p22, .inl (cI, 55, .inl g2))] : va_W) = [(m0, .inr (11, [.ref p0, .ref p1, .int i2, .ref p3, .int i4, .ref p5, .int i6, .int i7, .int i8, .int i9, .ref p10, .int i11, .ref p12, .ref p13, .ref p14, .int (u9.1 15), .ref p16, .ref p17, .int (u9.1 18), .ref p19, .ref p20, .ref p21, .ref p22, .int i23, .int i24, .ref p25, .ref p26, .ref p27, .ref p28, .ref p29, .ref p30, .ref p31, .ref p32])), (p0, .inl (cI, 1439, .inl w)), (p12, .inl (cI, 460, .inl (u9.2 12))), (p13, .inl (cI, 460, .inl (u9.2 13))), (p14, .inl (cI, 460, .inl (u9.2 14))), (p16, .inl (cI, 11, .inl (u9.2 16))), (p17, .inl (cI, 11, .inl (u9.2 17))), (p19, .inl (cI, 55, .inl (u9.2 19))), (p20, .inl (cI, 55, .inl (u9.2 20))), (p21, .inl (cI, 55, .inl (u9.2 21))), (p22, .inl (cI, 55, .inl (u9.2 22)))] := by subst hu9; rfl
      rw [hw9] at hP hD
      have hr9 : ((-1000001) : Int32) = ftSmA w xq0 xq1 := by first | exact (ftIte_f (fun q => c13 q.1)).symm | exact (ftIte_f (fun q => c25 q.2)).symm
      exact W.iret (v := (-1000001)) hx hb hr (fun t ht hW => ⟨⟨(-1000001), u9, rfl, ⟨hr9, trivial⟩, by rw [ht]; exact hP, by rw [hAe]; exact hD⟩, by rw [hAe]; exact hS.F ht⟩) hS.2.2 dX11_sample_30
set_option maxHeartbeats 4000000 in
set_option maxRecDepth 100000 in
theorem c_X11_echo (l : Launch) (D : va_G) (cI cS : ClassId) (sz : Nat) (m0 p0 p1 p3 p5 p10 p12 p13 p14 p16 p17 p19 p20 p21 p22 p25 p26 p27 p28 p29 p30 p31 p32 : Nat) (i2 i4 i6 i7 i8 i9 i11 i15 i18 i23 i24 : Int32) (w fa fh ga gh g1 g2 : Nat → Int32) (xq0 xq1 : Int32) (hwf : ftWf w) : Met l yX11_echo wsX11_echo ({ frames := 2, cells := 0, slots := 0, locals := 48 }) (ftRW D cI cS [.ref m0, .int xq0, .int xq1] [(m0, .inr (11, [.ref p0, .ref p1, .int i2, .ref p3, .int i4, .ref p5, .int i6, .int i7, .int i8, .int i9, .ref p10, .int i11, .ref p12, .ref p13, .ref p14, .int i15, .ref p16, .ref p17, .int i18, .ref p19, .ref p20, .ref p21, .ref p22, .int i23, .int i24, .ref p25, .ref p26, .ref p27, .ref p28, .ref p29, .ref p30, .ref p31, .ref p32])), (p0, .inl (cI, 1439, .inl w)), (p16, .inl (cI, 11, .inl fa)), (p17, .inl (cI, 11, .inl fh)), (p19, .inl (cI, 55, .inl ga)), (p20, .inl (cI, 55, .inl gh)), (p21, .inl (cI, 55, .inl g1)), (p22, .inl (cI, 55, .inl g2))] sz) (ftXi D [(m0, .inr (11, [.ref p0, .ref p1, .int i2, .ref p3, .int i4, .ref p5, .int i6, .int i7, .int i8, .int i9, .ref p10, .int i11, .ref p12, .ref p13, .ref p14, .int i15, .ref p16, .ref p17, .int i18, .ref p19, .ref p20, .ref p21, .ref p22, .int i23, .int i24, .ref p25, .ref p26, .ref p27, .ref p28, .ref p29, .ref p30, .ref p31, .ref p32])), (p0, .inl (cI, 1439, .inl w)), (p16, .inl (cI, 11, .inl fa)), (p17, .inl (cI, 11, .inl fh)), (p19, .inl (cI, 55, .inl ga)), (p20, .inl (cI, 55, .inl gh)), (p21, .inl (cI, 55, .inl g1)), (p22, .inl (cI, 55, .inl g2))] sz (fun (o9 : Int32) (u : (Nat → Int32) × (Nat → Nat → Int32)) => o9 = ftEcA w xq0 xq1 ∧ True) (fun (u : (Nat → Int32) × (Nat → Nat → Int32)) => [(m0, .inr (11, [.ref p0, .ref p1, .int i2, .ref p3, .int i4, .ref p5, .int i6, .int i7, .int i8, .int i9, .ref p10, .int i11, .ref p12, .ref p13, .ref p14, .int (u.1 15), .ref p16, .ref p17, .int (u.1 18), .ref p19, .ref p20, .ref p21, .ref p22, .int i23, .int i24, .ref p25, .ref p26, .ref p27, .ref p28, .ref p29, .ref p30, .ref p31, .ref p32])), (p0, .inl (cI, 1439, .inl w)), (p16, .inl (cI, 11, .inl (u.2 16))), (p17, .inl (cI, 11, .inl (u.2 17))), (p19, .inl (cI, 55, .inl (u.2 19))), (p20, .inl (cI, 55, .inl (u.2 20))), (p21, .inl (cI, 55, .inl (u.2 21))), (p22, .inl (cI, 55, .inl (u.2 22)))])) 0 0 (va_A [(m0, .inr (11, [.ref p0, .ref p1, .int i2, .ref p3, .int i4, .ref p5, .int i6, .int i7, .int i8, .int i9, .ref p10, .int i11, .ref p12, .ref p13, .ref p14, .int i15, .ref p16, .ref p17, .int i18, .ref p19, .ref p20, .ref p21, .ref p22, .int i23, .int i24, .ref p25, .ref p26, .ref p27, .ref p28, .ref p29, .ref p30, .ref p31, .ref p32])), (p0, .inl (cI, 1439, .inl w)), (p16, .inl (cI, 11, .inl fa)), (p17, .inl (cI, 11, .inl fh)), (p19, .inl (cI, 55, .inl ga)), (p20, .inl (cI, 55, .inl gh)), (p21, .inl (cI, 55, .inl g1)), (p22, .inl (cI, 55, .inl g2))] sz) := by
  refine Met.ofW (cc := cX11_echo) (maxL := 3) (ret := (some .int)) (by decide) rfl ?_
  intro p e s m args below meth c s₁ B hml hv
  obtain ⟨rfl, hsz, hP, hKK, hD0⟩ := hv
  have hK := hKK.1
  have hx := B.exec
  have hb := B.bytes
  have hr := B.returns
  have hts := atoms_spec (ws := wsX11_echo) B.pre
  have hown : s.vm.findClass RX11 = some m.cls := findClass_of_methodNamed B.named
  have hlocks := B.notSynchronized
  subst hsz
  have hD := hD0.self (sz := s.heap.size)
  generalize hAe : va_A [(m0, .inr (11, [.ref p0, .ref p1, .int i2, .ref p3, .int i4, .ref p5, .int i6, .int i7, .int i8, .int i9, .ref p10, .int i11, .ref p12, .ref p13, .ref p14, .int i15, .ref p16, .ref p17, .int i18, .ref p19, .ref p20, .ref p21, .ref p22, .int i23, .int i24, .ref p25, .ref p26, .ref p27, .ref p28, .ref p29, .ref p30, .ref p31, .ref p32])), (p0, .inl (cI, 1439, .inl w)), (p16, .inl (cI, 11, .inl fa)), (p17, .inl (cI, 11, .inl fh)), (p19, .inl (cI, 55, .inl ga)), (p20, .inl (cI, 55, .inl gh)), (p21, .inl (cI, 55, .inl g1)), (p22, .inl (cI, 55, .inl g2))] s.heap.size = A at hD ⊢
  have hA : ∀ q : Nat, s.heap.size ≤ q → A q := fun q h => by rw [← hAe]; exact Or.inr h
  have hS : va_S A s.heap s.heap [] := va_S.rf
  have hD : va_D A [(m0, .inr (11, [.ref p0, .ref p1, .int i2, .ref p3, .int i4, .ref p5, .int i6, .int i7, .int i8, .int i9, .ref p10, .int i11, .ref p12, .ref p13, .ref p14, .int i15, .ref p16, .ref p17, .int i18, .ref p19, .ref p20, .ref p21, .ref p22, .int i23, .int i24, .ref p25, .ref p26, .ref p27, .ref p28, .ref p29, .ref p30, .ref p31, .ref p32])), (p0, .inl (cI, 1439, .inl w)), (p16, .inl (cI, 11, .inl fa)), (p17, .inl (cI, 11, .inl fh)), (p19, .inl (cI, 55, .inl ga)), (p20, .inl (cI, 55, .inl gh)), (p21, .inl (cI, 55, .inl g1)), (p22, .inl (cI, 55, .inl g2))] := hD
  have hP : va_P D vwCl [(m0, .inr (11, [.ref p0, .ref p1, .int i2, .ref p3, .int i4, .ref p5, .int i6, .int i7, .int i8, .int i9, .ref p10, .int i11, .ref p12, .ref p13, .ref p14, .int i15, .ref p16, .ref p17, .int i18, .ref p19, .ref p20, .ref p21, .ref p22, .int i23, .int i24, .ref p25, .ref p26, .ref p27, .ref p28, .ref p29, .ref p30, .ref p31, .ref p32])), (p0, .inl (cI, 1439, .inl w)), (p16, .inl (cI, 11, .inl fa)), (p17, .inl (cI, 11, .inl fh)), (p19, .inl (cI, 55, .inl ga)), (p20, .inl (cI, 55, .inl gh)), (p21, .inl (cI, 55, .inl g1)), (p22, .inl (cI, 55, .inl g2))] s.heap := hP
  have hl := lv_entry ([.ref m0, .int xq0, .int xq1]) (n := 3) (Nat.le_of_ble_eq_true rfl)
  rw [lg_entry_eq]
  generalize (lg_sl ([.ref m0, .int xq0, .int xq1]) ++ List.replicate (3 - (lg_sl ([.ref m0, .int xq0, .int xq1])).length) Slot.unset).toArray = ls at hl ⊢
  have hl : lv_has ls 3 [(0, .ref m0), (1, .int xq0), (2, .int xq1)] := hl
  have hw3 := ftWf_3 hwf
  have hn := ftWf_n hwf
  have hw0 := ftWf_0 hwf
  have hln := ftWf_ln hwf
  have hlg := ftWf_lg hwf
  have hg55 := ftCG_le hwf
  refine lv_iload_n hx hb dX11_echo_0 rfl (lv_at hl 1 rfl) ?_
  refine lv_if_lt (tgt := 16) hx hb dX11_echo_1 (by decide) (fun c1 => ?_) (fun c1 => ?_)
  · have hno : ¬ (¬ xq0 < 0 ∧ 0 ≤ xq1 ∧ xq1 ≤ 3) := fun q => q.1 c1
    refine lv_ldc (v := (-1000001)) hx hb hown (hts (.constant RX11 95 (-1000001)) (by decide +kernel)) dX11_echo_16 ?_
    obtain ⟨u9, hu9⟩ : ∃ u9 : (Nat → Int32) × (Nat → Nat → Int32), u9 = ((fun k => match k with | 15 => i15 | _ => i18), (fun k => match k with | 16 => fa | 17 => fh | 19 => ga | 20 => gh | 21 => g1 | _ => g2)) := ⟨_, rfl⟩
    have hw9 : ([(m0, .inr (11, [.ref p0, .ref p1, .int i2, .ref p3, .int i4, .ref p5, .int i6, .int i7, .int i8, .int i9, .ref p10, .int i11, .ref p12, .ref p13, .ref p14, .int i15, .ref p16, .ref p17, .int i18, .ref p19, .ref p20, .ref p21, .ref p22, .int i23, .int i24, .ref p25, .ref p26, .ref p27, .ref p28, .ref p29, .ref p30, .ref p31, .ref p32])), (p0, .inl (cI, 1439, .inl w)), (p16, .inl (cI, 11, .inl fa)), (p17, .inl (cI, 11, .inl fh)), (p19, .inl (cI, 55, .inl ga)), (p20, .inl (cI, 55, .inl gh)), (p21, .inl (cI, 55, .inl g1)), (p22, .inl (cI, 55, .inl g2))] : va_W) = [(m0, .inr (11, [.ref p0, .ref p1, .int i2, .ref p3, .int i4, .ref p5, .int i6, .int i7, .int i8, .int i9, .ref p10, .int i11, .ref p12, .ref p13, .ref p14, .int (u9.1 15), .ref p16, .ref p17, .int (u9.1 18), .ref p19, .ref p20, .ref p21, .ref p22, .int i23, .int i24, .ref p25, .ref p26, .ref p27, .ref p28, .ref p29, .ref p30, .ref p31, .ref p32])), (p0, .inl (cI, 1439, .inl w)), (p16, .inl (cI, 11, .inl (u9.2 16))), (p17, .inl (cI, 11, .inl (u9.2 17))), (p19, .inl (cI, 55, .inl (u9.2 19))), (p20, .inl (cI, 55, .inl (u9.2 20))), (p21, .inl (cI, 55, .inl (u9.2 21))), (p22, .inl (cI, 55, .inl (u9.2 22)))] := by subst hu9; rfl
    rw [hw9] at hP hD
    have hr9 : ((-1000001) : Int32) = ftEcA w xq0 xq1 := by exact (ftIte_f hno).symm
    exact W.iret (v := (-1000001)) hx hb hr (fun t ht hW => ⟨⟨(-1000001), u9, rfl, ⟨hr9, trivial⟩, by rw [ht]; exact hP, by rw [hAe]; exact hD⟩, by rw [hAe]; exact hS.F ht⟩) hS.2.2 dX11_echo_18
  · refine lv_iload_n hx hb dX11_echo_4 rfl (lv_at hl 2 rfl) ?_
    refine lv_i2l (v := xq1.toInt64) hx hb dX11_echo_5 rfl ?_
    refine lv_lconst (v := 0) hx hb dX11_echo_6 (by decide) ?_
    refine lv_ldc2 (v := 3) hx hb hown (hts (.constantLong RX11 227 3) (by decide +kernel)) dX11_echo_7 ?_
    refine ft_csi (r := ftB (0 ≤ xq1.toInt64 ∧ xq1.toInt64 ≤ 3)) (va_runS (As := [.long xq1.toInt64, .long 0, .long 3]) (rest := []) ⟨hx, hb, hml, hown, hts⟩ (c_X11_in l D cI cS xq1.toInt64 0 3) (va_cwS 3 hts gX11_echo_X11_in rfl rfl rfl (by decide +kernel) ⟨Nat.le_of_ble_eq_true rfl, Nat.le_of_ble_eq_true rfl⟩) (ft_preRO hP hKK [] rfl) rfl rfl hl.1 rfl (lv_room (Nat.le_of_ble_eq_true rfl)) dX11_echo_10 ⟨Nat.le_of_ble_eq_true rfl, Nat.le_of_ble_eq_true rfl⟩) ?_
    refine ft_top (y := ftB (0 ≤ xq1 ∧ xq1 ≤ 3)) (ft_in64 (by decide) (by decide)) ?_
    refine lv_if_ne (tgt := 19) hx hb dX11_echo_13 (by decide) (fun c13 => ?_) (fun c13 => ?_)
    · replace c13 := ftB_ne c13
      refine lv_aload_n hx hb dX11_echo_19 rfl (lv_at hl 0 rfl) ?_
      refine ft_cxv (S := Nat → Nat → Int32) (wc := [(m0, .inr (11, [.ref p0, .ref p1, .int i2, .ref p3, .int i4, .ref p5, .int i6, .int i7, .int i8, .int i9, .ref p10, .int i11, .ref p12, .ref p13, .ref p14, .int i15, .ref p16, .ref p17, .int i18, .ref p19, .ref p20, .ref p21, .ref p22, .int i23, .int i24, .ref p25, .ref p26, .ref p27, .ref p28, .ref p29, .ref p30, .ref p31, .ref p32])), (p0, .inl (cI, 1439, .inl w)), (p16, .inl (cI, 11, .inl fa)), (p17, .inl (cI, 11, .inl fh)), (p19, .inl (cI, 55, .inl ga)), (p20, .inl (cI, 55, .inl gh)), (p21, .inl (cI, 55, .inl g1)), (p22, .inl (cI, 55, .inl g2))]) (wr := []) (w1 := (fun (u20 : Nat → Nat → Int32) => [(m0, .inr (11, [.ref p0, .ref p1, .int i2, .ref p3, .int i4, .ref p5, .int i6, .int i7, .int i8, .int i9, .ref p10, .int i11, .ref p12, .ref p13, .ref p14, .int (nI (ftCF w).1), .ref p16, .ref p17, .int (nI (ftCG w).1), .ref p19, .ref p20, .ref p21, .ref p22, .int i23, .int i24, .ref p25, .ref p26, .ref p27, .ref p28, .ref p29, .ref p30, .ref p31, .ref p32])), (p0, .inl (cI, 1439, .inl w)), (p16, .inl (cI, 11, .inl (u20 16))), (p17, .inl (cI, 11, .inl (u20 17))), (p19, .inl (cI, 55, .inl (u20 19))), (p20, .inl (cI, 55, .inl (u20 20))), (p21, .inl (cI, 55, .inl (u20 21))), (p22, .inl (cI, 55, .inl (u20 22)))])) (ws1 := (fun (u20 : Nat → Nat → Int32) => [(m0, .inr (11, [.ref p0, .ref p1, .int i2, .ref p3, .int i4, .ref p5, .int i6, .int i7, .int i8, .int i9, .ref p10, .int i11, .ref p12, .ref p13, .ref p14, .int (nI (ftCF w).1), .ref p16, .ref p17, .int (nI (ftCG w).1), .ref p19, .ref p20, .ref p21, .ref p22, .int i23, .int i24, .ref p25, .ref p26, .ref p27, .ref p28, .ref p29, .ref p30, .ref p31, .ref p32])), (p0, .inl (cI, 1439, .inl w)), (p16, .inl (cI, 11, .inl (u20 16))), (p17, .inl (cI, 11, .inl (u20 17))), (p19, .inl (cI, 55, .inl (u20 19))), (p20, .inl (cI, 55, .inl (u20 20))), (p21, .inl (cI, 55, .inl (u20 21))), (p22, .inl (cI, 55, .inl (u20 22)))])) (va_runV (C := RX11) (As := []) (rest := []) ⟨hx, hb, hml, hown, hts⟩ (c_X11_layFlashesx l D cI cS s.heap.size m0 p0 p1 p3 p5 p10 p12 p13 p14 p16 p17 p19 p20 p21 p22 p25 p26 p27 p28 p29 p30 p31 p32 i2 i4 i6 i7 i8 i9 i11 i15 i18 i23 i24 w fa fh ga gh g1 g2 (by first | assumption | omega)) (cwV 0 hts gX11_echo_X11_layFlashes rfl rfl rfl (by decide +kernel) ⟨Nat.le_of_ble_eq_true rfl, Nat.le_of_ble_eq_true rfl⟩) (ft_preRWV (ci := 11) (q0 := 0) hP hD hKK [0, 1, 2, 3, 4, 5, 6, 7] rfl rfl rfl rfl rfl) rfl rfl hl.1 rfl (lv_room (Nat.le_of_ble_eq_true rfl)) dX11_echo_20 ⟨Nat.le_of_ble_eq_true rfl, Nat.le_of_ble_eq_true rfl⟩) hP hD hS hA [0, 1, 2, 3, 4, 5, 6, 7] [] [0, 1, 2, 3, 4, 5, 6, 7] rfl rfl (by decide) (by decide) (by decide) (fun _ => rfl) (fun _ => rfl) (fun u20 hu20 H locs hP hD hS => ?_)
      have hg20 := hu20
      have hP : va_P D vwCl [(m0, .inr (11, [.ref p0, .ref p1, .int i2, .ref p3, .int i4, .ref p5, .int i6, .int i7, .int i8, .int i9, .ref p10, .int i11, .ref p12, .ref p13, .ref p14, .int (nI (ftCF w).1), .ref p16, .ref p17, .int (nI (ftCG w).1), .ref p19, .ref p20, .ref p21, .ref p22, .int i23, .int i24, .ref p25, .ref p26, .ref p27, .ref p28, .ref p29, .ref p30, .ref p31, .ref p32])), (p0, .inl (cI, 1439, .inl w)), (p16, .inl (cI, 11, .inl (u20 16))), (p17, .inl (cI, 11, .inl (u20 17))), (p19, .inl (cI, 55, .inl (u20 19))), (p20, .inl (cI, 55, .inl (u20 20))), (p21, .inl (cI, 55, .inl (u20 21))), (p22, .inl (cI, 55, .inl (u20 22)))] H := hP
      have hD : va_D A [(m0, .inr (11, [.ref p0, .ref p1, .int i2, .ref p3, .int i4, .ref p5, .int i6, .int i7, .int i8, .int i9, .ref p10, .int i11, .ref p12, .ref p13, .ref p14, .int (nI (ftCF w).1), .ref p16, .ref p17, .int (nI (ftCG w).1), .ref p19, .ref p20, .ref p21, .ref p22, .int i23, .int i24, .ref p25, .ref p26, .ref p27, .ref p28, .ref p29, .ref p30, .ref p31, .ref p32])), (p0, .inl (cI, 1439, .inl w)), (p16, .inl (cI, 11, .inl (u20 16))), (p17, .inl (cI, 11, .inl (u20 17))), (p19, .inl (cI, 55, .inl (u20 19))), (p20, .inl (cI, 55, .inl (u20 20))), (p21, .inl (cI, 55, .inl (u20 21))), (p22, .inl (cI, 55, .inl (u20 22)))] := hD
      refine lv_iload_n hx hb dX11_echo_23 rfl (lv_at hl 1 rfl) ?_
      refine lv_aload_n hx hb dX11_echo_24 rfl (lv_at hl 0 rfl) ?_
      refine va_get (D := D) (ci := 11) (v := .int (nI (ftCG w).1)) (C := RX11) (T := TX11) (N := 33) hx hb hts (by decide +kernel) hown hK hP 0 rfl rfl 18 (by decide) (hts (.fieldLink RX11 208 "FiberTraceModel" "ghostMany" "I") (by decide +kernel)) (fun _ h9 => h9) rfl dX11_echo_25 ?_
      refine lv_icmp_lt (tgt := 34) hx hb dX11_echo_28 (by decide) (fun c28 => ?_) (fun c28 => ?_)
      · have hk9 := ftI_lt (Int32.not_lt.mp c1) c28 (by omega)
        have hxk := (ftI_nat (Int32.not_lt.mp c1)).1
        generalize hk8 : xq0.toNatClampNeg = k9 at hk9 hxk
        rw [hxk] at hl
        obtain ⟨hg1, hg2, hg3, hg4⟩ := hg20 k9 hk9
        refine lv_iload_n hx hb dX11_echo_34 rfl (lv_at hl 2 rfl) ?_
        refine lv_if_ne (tgt := 47) hx hb dX11_echo_35 (by decide) (fun c35 => ?_) (fun c35 => ?_)
        · refine lv_iload_n hx hb dX11_echo_47 rfl (lv_at hl 2 rfl) ?_
          refine lv_iconst (v := 1) hx hb dX11_echo_48 (by decide) ?_
          refine lv_icmp_ne (tgt := 61) hx hb dX11_echo_49 (by decide) (fun c49 => ?_) (fun c49 => ?_)
          · refine lv_iload_n hx hb dX11_echo_61 rfl (lv_at hl 2 rfl) ?_
            refine lv_iconst (v := 2) hx hb dX11_echo_62 (by decide) ?_
            refine lv_icmp_ne (tgt := 75) hx hb dX11_echo_63 (by decide) (fun c63 => ?_) (fun c63 => ?_)
            · refine lv_aload_n hx hb dX11_echo_75 rfl (lv_at hl 0 rfl) ?_
              refine va_get (D := D) (ci := 11) (v := .ref p22) (C := RX11) (T := TX11) (N := 33) hx hb hts (by decide +kernel) hown hK hP 0 rfl rfl 22 (by decide) (hts (.fieldLink RX11 49 "FiberTraceModel" "ghostTwo" "[I") (by decide +kernel)) (fun _ h9 => h9) rfl dX11_echo_76 ?_
              refine lv_iload_n hx hb dX11_echo_79 rfl (lv_at hl 1 rfl) ?_
              refine va_iald hx hb hK hP 7 0 rfl rfl (vp_in_nI (by omega) (by omega)) dX11_echo_80 ?_
              refine ft_top (y := (u20 22) k9) (ft_clampN (by omega)) ?_
              obtain ⟨u9, hu9⟩ : ∃ u9 : (Nat → Int32) × (Nat → Nat → Int32), u9 = ((fun k => match k with | 15 => (nI (ftCF w).1) | _ => (nI (ftCG w).1)), (fun k => match k with | 16 => (u20 16) | 17 => (u20 17) | 19 => (u20 19) | 20 => (u20 20) | 21 => (u20 21) | _ => (u20 22))) := ⟨_, rfl⟩
              have hw9 : ([(m0, .inr (11, [.ref p0, .ref p1, .int i2, .ref p3, .int i4, .ref p5, .int i6, .int i7, .int i8, .int i9, .ref p10, .int i11, .ref p12, .ref p13, .ref p14, .int (nI (ftCF w).1), .ref p16, .ref p17, .int (nI (ftCG w).1), .ref p19, .ref p20, .ref p21, .ref p22, .int i23, .int i24, .ref p25, .ref p26, .ref p27, .ref p28, .ref p29, .ref p30, .ref p31, .ref p32])), (p0, .inl (cI, 1439, .inl w)), (p16, .inl (cI, 11, .inl (u20 16))), (p17, .inl (cI, 11, .inl (u20 17))), (p19, .inl (cI, 55, .inl (u20 19))), (p20, .inl (cI, 55, .inl (u20 20))), (p21, .inl (cI, 55, .inl (u20 21))), (p22, .inl (cI, 55, .inl (u20 22)))] : va_W) = [(m0, .inr (11, [.ref p0, .ref p1, .int i2, .ref p3, .int i4, .ref p5, .int i6, .int i7, .int i8, .int i9, .ref p10, .int i11, .ref p12, .ref p13, .ref p14, .int (u9.1 15), .ref p16, .ref p17, .int (u9.1 18), .ref p19, .ref p20, .ref p21, .ref p22, .int i23, .int i24, .ref p25, .ref p26, .ref p27, .ref p28, .ref p29, .ref p30, .ref p31, .ref p32])), (p0, .inl (cI, 1439, .inl w)), (p16, .inl (cI, 11, .inl (u9.2 16))), (p17, .inl (cI, 11, .inl (u9.2 17))), (p19, .inl (cI, 55, .inl (u9.2 19))), (p20, .inl (cI, 55, .inl (u9.2 20))), (p21, .inl (cI, 55, .inl (u9.2 21))), (p22, .inl (cI, 55, .inl (u9.2 22)))] := by subst hu9; rfl
              rw [hw9] at hP hD
              have hr9 : ((u20 22) k9 : Int32) = ftEcA w xq0 xq1 := by rw [ftEcA, ftIte_t ⟨c1, c13⟩, ftIte_t c28, hk8, ftEcK]; first | (rw [if_pos c35]; exact hg1) | (rw [if_neg c35, if_pos c49]; exact hg2) | (rw [if_neg c35, if_neg c49, if_pos c63]; exact hg3) | (rw [if_neg c35, if_neg c49, if_neg c63]; exact hg4)
              exact W.iret (v := (u20 22) k9) hx hb hr (fun t ht hW => ⟨⟨(u20 22) k9, u9, rfl, ⟨hr9, trivial⟩, by rw [ht]; exact hP, by rw [hAe]; exact hD⟩, by rw [hAe]; exact hS.F ht⟩) hS.2.2 dX11_echo_81
            · refine lv_aload_n hx hb dX11_echo_66 rfl (lv_at hl 0 rfl) ?_
              refine va_get (D := D) (ci := 11) (v := .ref p21) (C := RX11) (T := TX11) (N := 33) hx hb hts (by decide +kernel) hown hK hP 0 rfl rfl 21 (by decide) (hts (.fieldLink RX11 46 "FiberTraceModel" "ghostOne" "[I") (by decide +kernel)) (fun _ h9 => h9) rfl dX11_echo_67 ?_
              refine lv_iload_n hx hb dX11_echo_70 rfl (lv_at hl 1 rfl) ?_
              refine va_iald hx hb hK hP 6 0 rfl rfl (vp_in_nI (by omega) (by omega)) dX11_echo_71 ?_
              refine ft_top (y := (u20 21) k9) (ft_clampN (by omega)) ?_
              refine lv_goto (tgt := 81) hx hb dX11_echo_72 (by decide) ?_
              obtain ⟨u9, hu9⟩ : ∃ u9 : (Nat → Int32) × (Nat → Nat → Int32), u9 = ((fun k => match k with | 15 => (nI (ftCF w).1) | _ => (nI (ftCG w).1)), (fun k => match k with | 16 => (u20 16) | 17 => (u20 17) | 19 => (u20 19) | 20 => (u20 20) | 21 => (u20 21) | _ => (u20 22))) := ⟨_, rfl⟩
              have hw9 : ([(m0, .inr (11, [.ref p0, .ref p1, .int i2, .ref p3, .int i4, .ref p5, .int i6, .int i7, .int i8, .int i9, .ref p10, .int i11, .ref p12, .ref p13, .ref p14, .int (nI (ftCF w).1), .ref p16, .ref p17, .int (nI (ftCG w).1), .ref p19, .ref p20, .ref p21, .ref p22, .int i23, .int i24, .ref p25, .ref p26, .ref p27, .ref p28, .ref p29, .ref p30, .ref p31, .ref p32])), (p0, .inl (cI, 1439, .inl w)), (p16, .inl (cI, 11, .inl (u20 16))), (p17, .inl (cI, 11, .inl (u20 17))), (p19, .inl (cI, 55, .inl (u20 19))), (p20, .inl (cI, 55, .inl (u20 20))), (p21, .inl (cI, 55, .inl (u20 21))), (p22, .inl (cI, 55, .inl (u20 22)))] : va_W) = [(m0, .inr (11, [.ref p0, .ref p1, .int i2, .ref p3, .int i4, .ref p5, .int i6, .int i7, .int i8, .int i9, .ref p10, .int i11, .ref p12, .ref p13, .ref p14, .int (u9.1 15), .ref p16, .ref p17, .int (u9.1 18), .ref p19, .ref p20, .ref p21, .ref p22, .int i23, .int i24, .ref p25, .ref p26, .ref p27, .ref p28, .ref p29, .ref p30, .ref p31, .ref p32])), (p0, .inl (cI, 1439, .inl w)), (p16, .inl (cI, 11, .inl (u9.2 16))), (p17, .inl (cI, 11, .inl (u9.2 17))), (p19, .inl (cI, 55, .inl (u9.2 19))), (p20, .inl (cI, 55, .inl (u9.2 20))), (p21, .inl (cI, 55, .inl (u9.2 21))), (p22, .inl (cI, 55, .inl (u9.2 22)))] := by subst hu9; rfl
              rw [hw9] at hP hD
              have hr9 : ((u20 21) k9 : Int32) = ftEcA w xq0 xq1 := by rw [ftEcA, ftIte_t ⟨c1, c13⟩, ftIte_t c28, hk8, ftEcK]; first | (rw [if_pos c35]; exact hg1) | (rw [if_neg c35, if_pos c49]; exact hg2) | (rw [if_neg c35, if_neg c49, if_pos c63]; exact hg3) | (rw [if_neg c35, if_neg c49, if_neg c63]; exact hg4)
              exact W.iret (v := (u20 21) k9) hx hb hr (fun t ht hW => ⟨⟨(u20 21) k9, u9, rfl, ⟨hr9, trivial⟩, by rw [ht]; exact hP, by rw [hAe]; exact hD⟩, by rw [hAe]; exact hS.F ht⟩) hS.2.2 dX11_echo_81
          · refine lv_aload_n hx hb dX11_echo_52 rfl (lv_at hl 0 rfl) ?_
            refine va_get (D := D) (ci := 11) (v := .ref p20) (C := RX11) (T := TX11) (N := 33) hx hb hts (by decide +kernel) hown hK hP 0 rfl rfl 20 (by decide) (hts (.fieldLink RX11 43 "FiberTraceModel" "ghostHigh" "[I") (by decide +kernel)) (fun _ h9 => h9) rfl dX11_echo_53 ?_
            refine lv_iload_n hx hb dX11_echo_56 rfl (lv_at hl 1 rfl) ?_
            refine va_iald hx hb hK hP 5 0 rfl rfl (vp_in_nI (by omega) (by omega)) dX11_echo_57 ?_
            refine ft_top (y := (u20 20) k9) (ft_clampN (by omega)) ?_
            refine lv_goto (tgt := 81) hx hb dX11_echo_58 (by decide) ?_
            obtain ⟨u9, hu9⟩ : ∃ u9 : (Nat → Int32) × (Nat → Nat → Int32), u9 = ((fun k => match k with | 15 => (nI (ftCF w).1) | _ => (nI (ftCG w).1)), (fun k => match k with | 16 => (u20 16) | 17 => (u20 17) | 19 => (u20 19) | 20 => (u20 20) | 21 => (u20 21) | _ => (u20 22))) := ⟨_, rfl⟩
            have hw9 : ([(m0, .inr (11, [.ref p0, .ref p1, .int i2, .ref p3, .int i4, .ref p5, .int i6, .int i7, .int i8, .int i9, .ref p10, .int i11, .ref p12, .ref p13, .ref p14, .int (nI (ftCF w).1), .ref p16, .ref p17, .int (nI (ftCG w).1), .ref p19, .ref p20, .ref p21, .ref p22, .int i23, .int i24, .ref p25, .ref p26, .ref p27, .ref p28, .ref p29, .ref p30, .ref p31, .ref p32])), (p0, .inl (cI, 1439, .inl w)), (p16, .inl (cI, 11, .inl (u20 16))), (p17, .inl (cI, 11, .inl (u20 17))), (p19, .inl (cI, 55, .inl (u20 19))), (p20, .inl (cI, 55, .inl (u20 20))), (p21, .inl (cI, 55, .inl (u20 21))), (p22, .inl (cI, 55, .inl (u20 22)))] : va_W) = [(m0, .inr (11, [.ref p0, .ref p1, .int i2, .ref p3, .int i4, .ref p5, .int i6, .int i7, .int i8, .int i9, .ref p10, .int i11, .ref p12, .ref p13, .ref p14, .int (u9.1 15), .ref p16, .ref p17, .int (u9.1 18), .ref p19, .ref p20, .ref p21, .ref p22, .int i23, .int i24, .ref p25, .ref p26, .ref p27, .ref p28, .ref p29, .ref p30, .ref p31, .ref p32])), (p0, .inl (cI, 1439, .inl w)), (p16, .inl (cI, 11, .inl (u9.2 16))), (p17, .inl (cI, 11, .inl (u9.2 17))), (p19, .inl (cI, 55, .inl (u9.2 19))), (p20, .inl (cI, 55, .inl (u9.2 20))), (p21, .inl (cI, 55, .inl (u9.2 21))), (p22, .inl (cI, 55, .inl (u9.2 22)))] := by subst hu9; rfl
            rw [hw9] at hP hD
            have hr9 : ((u20 20) k9 : Int32) = ftEcA w xq0 xq1 := by rw [ftEcA, ftIte_t ⟨c1, c13⟩, ftIte_t c28, hk8, ftEcK]; first | (rw [if_pos c35]; exact hg1) | (rw [if_neg c35, if_pos c49]; exact hg2) | (rw [if_neg c35, if_neg c49, if_pos c63]; exact hg3) | (rw [if_neg c35, if_neg c49, if_neg c63]; exact hg4)
            exact W.iret (v := (u20 20) k9) hx hb hr (fun t ht hW => ⟨⟨(u20 20) k9, u9, rfl, ⟨hr9, trivial⟩, by rw [ht]; exact hP, by rw [hAe]; exact hD⟩, by rw [hAe]; exact hS.F ht⟩) hS.2.2 dX11_echo_81
        · refine lv_aload_n hx hb dX11_echo_38 rfl (lv_at hl 0 rfl) ?_
          refine va_get (D := D) (ci := 11) (v := .ref p19) (C := RX11) (T := TX11) (N := 33) hx hb hts (by decide +kernel) hown hK hP 0 rfl rfl 19 (by decide) (hts (.fieldLink RX11 40 "FiberTraceModel" "ghostAt" "[I") (by decide +kernel)) (fun _ h9 => h9) rfl dX11_echo_39 ?_
          refine lv_iload_n hx hb dX11_echo_42 rfl (lv_at hl 1 rfl) ?_
          refine va_iald hx hb hK hP 4 0 rfl rfl (vp_in_nI (by omega) (by omega)) dX11_echo_43 ?_
          refine ft_top (y := (u20 19) k9) (ft_clampN (by omega)) ?_
          refine lv_goto (tgt := 81) hx hb dX11_echo_44 (by decide) ?_
          obtain ⟨u9, hu9⟩ : ∃ u9 : (Nat → Int32) × (Nat → Nat → Int32), u9 = ((fun k => match k with | 15 => (nI (ftCF w).1) | _ => (nI (ftCG w).1)), (fun k => match k with | 16 => (u20 16) | 17 => (u20 17) | 19 => (u20 19) | 20 => (u20 20) | 21 => (u20 21) | _ => (u20 22))) := ⟨_, rfl⟩
          have hw9 : ([(m0, .inr (11, [.ref p0, .ref p1, .int i2, .ref p3, .int i4, .ref p5, .int i6, .int i7, .int i8, .int i9, .ref p10, .int i11, .ref p12, .ref p13, .ref p14, .int (nI (ftCF w).1), .ref p16, .ref p17, .int (nI (ftCG w).1), .ref p19, .ref p20, .ref p21, .ref p22, .int i23, .int i24, .ref p25, .ref p26, .ref p27, .ref p28, .ref p29, .ref p30, .ref p31, .ref p32])), (p0, .inl (cI, 1439, .inl w)), (p16, .inl (cI, 11, .inl (u20 16))), (p17, .inl (cI, 11, .inl (u20 17))), (p19, .inl (cI, 55, .inl (u20 19))), (p20, .inl (cI, 55, .inl (u20 20))), (p21, .inl (cI, 55, .inl (u20 21))), (p22, .inl (cI, 55, .inl (u20 22)))] : va_W) = [(m0, .inr (11, [.ref p0, .ref p1, .int i2, .ref p3, .int i4, .ref p5, .int i6, .int i7, .int i8, .int i9, .ref p10, .int i11, .ref p12, .ref p13, .ref p14, .int (u9.1 15), .ref p16, .ref p17, .int (u9.1 18), .ref p19, .ref p20, .ref p21, .ref p22, .int i23, .int i24, .ref p25, .ref p26, .ref p27, .ref p28, .ref p29, .ref p30, .ref p31, .ref p32])), (p0, .inl (cI, 1439, .inl w)), (p16, .inl (cI, 11, .inl (u9.2 16))), (p17, .inl (cI, 11, .inl (u9.2 17))), (p19, .inl (cI, 55, .inl (u9.2 19))), (p20, .inl (cI, 55, .inl (u9.2 20))), (p21, .inl (cI, 55, .inl (u9.2 21))), (p22, .inl (cI, 55, .inl (u9.2 22)))] := by subst hu9; rfl
          rw [hw9] at hP hD
          have hr9 : ((u20 19) k9 : Int32) = ftEcA w xq0 xq1 := by rw [ftEcA, ftIte_t ⟨c1, c13⟩, ftIte_t c28, hk8, ftEcK]; first | (rw [if_pos c35]; exact hg1) | (rw [if_neg c35, if_pos c49]; exact hg2) | (rw [if_neg c35, if_neg c49, if_pos c63]; exact hg3) | (rw [if_neg c35, if_neg c49, if_neg c63]; exact hg4)
          exact W.iret (v := (u20 19) k9) hx hb hr (fun t ht hW => ⟨⟨(u20 19) k9, u9, rfl, ⟨hr9, trivial⟩, by rw [ht]; exact hP, by rw [hAe]; exact hD⟩, by rw [hAe]; exact hS.F ht⟩) hS.2.2 dX11_echo_81
      · refine lv_ldc (v := (-1000004)) hx hb hown (hts (.constant RX11 173 (-1000004)) (by decide +kernel)) dX11_echo_31 ?_
        obtain ⟨u9, hu9⟩ : ∃ u9 : (Nat → Int32) × (Nat → Nat → Int32), u9 = ((fun k => match k with | 15 => (nI (ftCF w).1) | _ => (nI (ftCG w).1)), (fun k => match k with | 16 => (u20 16) | 17 => (u20 17) | 19 => (u20 19) | 20 => (u20 20) | 21 => (u20 21) | _ => (u20 22))) := ⟨_, rfl⟩
        have hw9 : ([(m0, .inr (11, [.ref p0, .ref p1, .int i2, .ref p3, .int i4, .ref p5, .int i6, .int i7, .int i8, .int i9, .ref p10, .int i11, .ref p12, .ref p13, .ref p14, .int (nI (ftCF w).1), .ref p16, .ref p17, .int (nI (ftCG w).1), .ref p19, .ref p20, .ref p21, .ref p22, .int i23, .int i24, .ref p25, .ref p26, .ref p27, .ref p28, .ref p29, .ref p30, .ref p31, .ref p32])), (p0, .inl (cI, 1439, .inl w)), (p16, .inl (cI, 11, .inl (u20 16))), (p17, .inl (cI, 11, .inl (u20 17))), (p19, .inl (cI, 55, .inl (u20 19))), (p20, .inl (cI, 55, .inl (u20 20))), (p21, .inl (cI, 55, .inl (u20 21))), (p22, .inl (cI, 55, .inl (u20 22)))] : va_W) = [(m0, .inr (11, [.ref p0, .ref p1, .int i2, .ref p3, .int i4, .ref p5, .int i6, .int i7, .int i8, .int i9, .ref p10, .int i11, .ref p12, .ref p13, .ref p14, .int (u9.1 15), .ref p16, .ref p17, .int (u9.1 18), .ref p19, .ref p20, .ref p21, .ref p22, .int i23, .int i24, .ref p25, .ref p26, .ref p27, .ref p28, .ref p29, .ref p30, .ref p31, .ref p32])), (p0, .inl (cI, 1439, .inl w)), (p16, .inl (cI, 11, .inl (u9.2 16))), (p17, .inl (cI, 11, .inl (u9.2 17))), (p19, .inl (cI, 55, .inl (u9.2 19))), (p20, .inl (cI, 55, .inl (u9.2 20))), (p21, .inl (cI, 55, .inl (u9.2 21))), (p22, .inl (cI, 55, .inl (u9.2 22)))] := by subst hu9; rfl
        rw [hw9] at hP hD
        have hr9 : ((-1000004) : Int32) = ftEcA w xq0 xq1 := by exact ((ftIte_t ⟨c1, c13⟩).trans (ftIte_f c28)).symm
        exact W.iret (v := (-1000004)) hx hb hr (fun t ht hW => ⟨⟨(-1000004), u9, rfl, ⟨hr9, trivial⟩, by rw [ht]; exact hP, by rw [hAe]; exact hD⟩, by rw [hAe]; exact hS.F ht⟩) hS.2.2 dX11_echo_33
    · replace c13 := ftB_eq c13
      have hno : ¬ (¬ xq0 < 0 ∧ 0 ≤ xq1 ∧ xq1 ≤ 3) := fun q => c13 q.2
      refine lv_ldc (v := (-1000001)) hx hb hown (hts (.constant RX11 95 (-1000001)) (by decide +kernel)) dX11_echo_16 ?_
      obtain ⟨u9, hu9⟩ : ∃ u9 : (Nat → Int32) × (Nat → Nat → Int32), u9 = ((fun k => match k with | 15 => i15 | _ => i18), (fun k => match k with | 16 => fa | 17 => fh | 19 => ga | 20 => gh | 21 => g1 | _ => g2)) := ⟨_, rfl⟩
      have hw9 : ([(m0, .inr (11, [.ref p0, .ref p1, .int i2, .ref p3, .int i4, .ref p5, .int i6, .int i7, .int i8, .int i9, .ref p10, .int i11, .ref p12, .ref p13, .ref p14, .int i15, .ref p16, .ref p17, .int i18, .ref p19, .ref p20, .ref p21, .ref p22, .int i23, .int i24, .ref p25, .ref p26, .ref p27, .ref p28, .ref p29, .ref p30, .ref p31, .ref p32])), (p0, .inl (cI, 1439, .inl w)), (p16, .inl (cI, 11, .inl fa)), (p17, .inl (cI, 11, .inl fh)), (p19, .inl (cI, 55, .inl ga)), (p20, .inl (cI, 55, .inl gh)), (p21, .inl (cI, 55, .inl g1)), (p22, .inl (cI, 55, .inl g2))] : va_W) = [(m0, .inr (11, [.ref p0, .ref p1, .int i2, .ref p3, .int i4, .ref p5, .int i6, .int i7, .int i8, .int i9, .ref p10, .int i11, .ref p12, .ref p13, .ref p14, .int (u9.1 15), .ref p16, .ref p17, .int (u9.1 18), .ref p19, .ref p20, .ref p21, .ref p22, .int i23, .int i24, .ref p25, .ref p26, .ref p27, .ref p28, .ref p29, .ref p30, .ref p31, .ref p32])), (p0, .inl (cI, 1439, .inl w)), (p16, .inl (cI, 11, .inl (u9.2 16))), (p17, .inl (cI, 11, .inl (u9.2 17))), (p19, .inl (cI, 55, .inl (u9.2 19))), (p20, .inl (cI, 55, .inl (u9.2 20))), (p21, .inl (cI, 55, .inl (u9.2 21))), (p22, .inl (cI, 55, .inl (u9.2 22)))] := by subst hu9; rfl
      rw [hw9] at hP hD
      have hr9 : ((-1000001) : Int32) = ftEcA w xq0 xq1 := by exact (ftIte_f hno).symm
      exact W.iret (v := (-1000001)) hx hb hr (fun t ht hW => ⟨⟨(-1000001), u9, rfl, ⟨hr9, trivial⟩, by rw [ht]; exact hP, by rw [hAe]; exact hD⟩, by rw [hAe]; exact hS.F ht⟩) hS.2.2 dX11_echo_18
